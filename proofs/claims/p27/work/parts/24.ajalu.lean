/-! AJ: locals and stack -/
section AJALU
abbrev aFn : Type := aL → List aV → Option (Nat × aL × List aV)
def aPu (p : Nat) (v : Value) : aFn := fun ls st => some (p, ls, .inl v :: st)
def aLd (kd k p : Nat) : aFn := fun ls st => match aGt ls k with | some a => (match Nat.beq (aK a) kd with | true => some (p, ls, a :: st) | false => none) | none => none
def aSo (kd k p : Nat) : aFn := fun ls st => match st with | a :: r => (match Nat.beq (aK a) kd with | true => some (p, aStO k a ls, r) | false => none) | _ => none
def aSw (kd k p : Nat) : aFn := fun ls st => match st with | a :: r => (match Nat.beq (aK a) kd with | true => some (p, aStT k a ls, r) | false => none) | _ => none
def aInc (k : Nat) (n : Int32) (p : Nat) : aFn := fun ls st => match aGt ls k with
  | some (.inl (.int x)) => some (p, aStO k (.inl (.int (x + n))) ls, st)
  | some a => if aK a = 0 then some (p, aStO k aAnyI ls, st) else none
  | none => none
def aB32 (f : Int32 → Int32 → Int32) (y x : aV) : Option aV := match y, x with
  | .inl (.int b), .inl (.int a) => some (.inl (.int (f a b)))
  | y, x => if aK y = 0 ∧ aK x = 0 then some aAnyI else none
def aB64 (f : Int64 → Int64 → Int64) (y x : aV) : Option aV := match y, x with
  | .inl (.long b), .inl (.long a) => some (.inl (.long (f a b)))
  | y, x => if aK y = 1 ∧ aK x = 1 then some aAnyJ else none
def aS64 (f : Int64 → Int32 → Int64) (y x : aV) : Option aV := match y, x with
  | .inl (.int b), .inl (.long a) => some (.inl (.long (f a b)))
  | y, x => if aK y = 0 ∧ aK x = 1 then some aAnyJ else none
def aRg : aV → Int × Int
  | .inl (.int x) => (x.toInt, x.toInt)
  | .inl (.long x) => (x.toInt, x.toInt)
  | .inr (_, lo, hi) => (lo, hi)
  | _ => (0, 0)
def aShl (y x : aV) : Option aV := match y, x with
  | .inl (.int b), .inr (true, lo, hi) => if b = 32 ∧ -2147483648 ≤ lo ∧ hi ≤ 2147483647 then some (.inr (true, lo * 4294967296, hi * 4294967296)) else some aAnyJ
  | y, x => aS64 (fun x y => x <<< (y.toInt64 &&& 63)) y x
def aUshr (y x : aV) : Option aV := match y, x with
  | .inl (.int b), .inr (true, lo, hi) => if b = 0 then some (.inr (true, lo, hi)) else some aAnyJ
  | y, x => aS64 (fun x y => (x.toUInt64 >>> (y.toInt64.toUInt64 &&& Int64.toUInt64 63)).toInt64) y x
def aLand (y x : aV) : Option aV := match y, x with
  | .inl (.long b), .inr (true, lo, hi) => if b = 4294967295 ∧ 0 ≤ lo ∧ hi ≤ 4294967295 then some (.inr (true, lo, hi)) else if b = 4294967295 ∧ -4294967296 ≤ lo ∧ hi < 0 then some (.inr (true, lo + 4294967296, hi + 4294967296)) else some aAnyJ
  | y, x => aB64 (fun x y => x &&& y) y x
def aLor (y x : aV) : Option aV := match y, x with
  | .inl (.long b), .inl (.long a) => some (.inl (.long (a ||| b)))
  | y, x => if aK y = 1 ∧ aK x = 1 then (if (aRg x).2 < 0 then some (.inr (true, -9223372036854775808, -1)) else if 0 ≤ (aRg x).1 ∧ 0 ≤ (aRg y).1 then some (.inr (true, max (aRg x).1 (aRg y).1, 9223372036854775807)) else some aAnyJ) else none
def aBin (g : aV → aV → Option aV) (p : Nat) : aFn := fun ls st => match st with
  | y :: x :: r => match g y x with | some v => some (p, ls, v :: r) | none => none
  | _ => none
def aUn (g : aV → Option aV) (p : Nat) : aFn := fun ls st => match st with
  | x :: r => match g x with | some v => some (p, ls, v :: r) | none => none
  | _ => none
def aI2l : aV → Option aV
  | .inl (.int a) => some (.inl (.long a.toInt64))
  | .inr (false, lo, hi) => some (.inr (true, lo, hi))
  | _ => none
def aL2i : aV → Option aV
  | .inl (.long a) => some (.inl (.int a.toInt32))
  | .inr (true, _, _) => some aAnyI
  | _ => none
def aI2b : aV → Option aV
  | .inl (.int a) => some (.inl (.int a.toInt8.toInt32))
  | .inr (false, _, _) => some aAnyI
  | _ => none
def aRem (y x : aV) : Option aV := match y, x with
  | .inl (.int b), .inl (.int a) => if b = 0 then none else some (.inl (.int (a - a / b * b)))
  | _, _ => none
def aCmpR (c : Jvm.ClassFile.Cond) (p q : Int × Int) : Option Bool := match c with
  | .lt => if p.2 < q.1 then some true else if q.2 ≤ p.1 then some false else none
  | .ge => if p.2 < q.1 then some false else if q.2 ≤ p.1 then some true else none
  | .gt => if q.2 < p.1 then some true else if p.2 ≤ q.1 then some false else none
  | .le => if q.2 < p.1 then some false else if p.2 ≤ q.1 then some true else none
  | .eq => if p.2 < q.1 ∨ q.2 < p.1 then some false else none
  | .ne => if p.2 < q.1 ∨ q.2 < p.1 then some true else none
def aCmp (c : Jvm.ClassFile.Cond) (x y : aV) : Option Bool := match x, y with
  | .inl (.int a), .inl (.int b) => some (mjC c a b)
  | x, y => if aK x = 0 ∧ aK y = 0 then aCmpR c (aRg x) (aRg y) else none
def aLcmp (y x : aV) : Option aV := match y, x with
  | .inl (.long b), .inl (.long a) => some (.inl (.int (lg_cmp a b)))
  | y, x => if aK y = 1 ∧ aK x = 1 then (if (aRg x).2 < (aRg y).1 then some (.inl (.int (-1))) else if (aRg y).2 < (aRg x).1 then some (.inl (.int 1)) else none) else none
def aIf1 (c : Jvm.ClassFile.Cond) (b p : Nat) : aFn := fun ls st => match st with
  | x :: r => match aCmp c x (.inl (.int 0)) with | some t => some (if t then b else p, ls, r) | none => none
  | _ => none
def aIf2 (c : Jvm.ClassFile.Cond) (b p : Nat) : aFn := fun ls st => match st with
  | y :: x :: r => match aCmp c x y with | some t => some (if t then b else p, ls, r) | none => none
  | _ => none
def aJmp (i : Instr) (pc b : Nat) : aFn := fun ls st => match st with
  | .inl (.int x) :: r => match mjAlu i pc b [] [.int x] with | some (p, _, _) => some (p, ls, r) | none => none
  | _ => none
def aJmpT (d lo hi : Int) (o : Array Int) (pc b : Nat) : aFn := fun ls st => match st with
  | .inl (.int x) :: r => match mjAlu (.tableswitch d lo hi o) pc b [] [.int x] with | some (p, _, _) => some (p, ls, r) | none => none
  | .inr (false, x, y) :: r => if (y < lo ∨ hi < x) ∧ ((pc : Int) + d).toNat = (pc : Int) + d then some (((pc : Int) + d).toNat, ls, r) else none
  | _ => none
def aJmpL (d : Int) (ps : Array (Int × Int)) (pc b : Nat) : aFn := fun ls st => match st with
  | .inl (.int x) :: r => match mjAlu (.lookupswitch d ps) pc b [] [.int x] with | some (p, _, _) => some (p, ls, r) | none => none
  | .inr (false, x, y) :: r => if ps.toList.all (fun q => decide (q.1 < x ∨ y < q.1)) = true ∧ (ps.toList.zip (ps.toList.drop 1)).all (fun (a, next) => a.1 < next.1) = true ∧ ((pc : Int) + d).toNat = (pc : Int) + d then some (((pc : Int) + d).toNat, ls, r) else none
  | _ => none
def aAlu (i : Instr) (pc b : Nat) : Option aFn := match i with
  | .iconst k => some (aPu (pc + 1) (.int (Int32.ofInt k)))
  | .bipush k => some (aPu (pc + 2) (.int (Int8.ofInt k).toInt32))
  | .sipush k => some (aPu (pc + 3) (.int (Int16.ofInt k).toInt32))
  | .lconst k => some (aPu (pc + 1) (.long (Int64.ofNat (k : Nat))))
  | .iload_n k => some (aLd 0 (k : Nat) (pc + 1))
  | .iload k => some (aLd 0 k (pc + 2))
  | .lload_n k => some (aLd 1 (k : Nat) (pc + 1))
  | .lload k => some (aLd 1 k (pc + 2))
  | .aload_n k => some (aLd 2 (k : Nat) (pc + 1))
  | .aload k => some (aLd 2 k (pc + 2))
  | .istore_n k => some (aSo 0 (k : Nat) (pc + 1))
  | .istore k => some (aSo 0 k (pc + 2))
  | .lstore_n k => some (aSw 1 (k : Nat) (pc + 1))
  | .lstore k => some (aSw 1 k (pc + 2))
  | .astore_n k => some (aSo 2 (k : Nat) (pc + 1))
  | .astore k => some (aSo 2 k (pc + 2))
  | .iinc k n => some (aInc k (Int32.ofInt n) (pc + 3))
  | .iadd => some (aBin (aB32 (fun x y => x + y)) (pc + 1))
  | .isub => some (aBin (aB32 (fun x y => x - y)) (pc + 1))
  | .imul => some (aBin (aB32 (fun x y => x * y)) (pc + 1))
  | .iand => some (aBin (aB32 (fun x y => x &&& y)) (pc + 1))
  | .ior => some (aBin (aB32 (fun x y => x ||| y)) (pc + 1))
  | .ixor => some (aBin (aB32 (fun x y => x ^^^ y)) (pc + 1))
  | .irem => some (aBin aRem (pc + 1))
  | .ishl => some (aBin (aB32 (fun x y => x <<< (y &&& 31))) (pc + 1))
  | .ishr => some (aBin (aB32 (fun x y => x >>> (y &&& 31))) (pc + 1))
  | .iushr => some (aBin (aB32 (fun x y => (x.toUInt32 >>> (y.toUInt32 &&& Int32.toUInt32 31)).toInt32)) (pc + 1))
  | .ladd => some (aBin (aB64 (fun x y => x + y)) (pc + 1))
  | .lsub => some (aBin (aB64 (fun x y => x - y)) (pc + 1))
  | .lmul => some (aBin (aB64 (fun x y => x * y)) (pc + 1))
  | .land => some (aBin aLand (pc + 1))
  | .lor => some (aBin aLor (pc + 1))
  | .lxor => some (aBin (aB64 (fun x y => x ^^^ y)) (pc + 1))
  | .lshl => some (aBin aShl (pc + 1))
  | .lshr => some (aBin (aS64 (fun x y => x >>> (y.toInt64 &&& 63))) (pc + 1))
  | .lushr => some (aBin aUshr (pc + 1))
  | .lcmp => some (aBin aLcmp (pc + 1))
  | .i2l => some (aUn aI2l (pc + 1))
  | .l2i => some (aUn aL2i (pc + 1))
  | .i2b => some (aUn aI2b (pc + 1))
  | .dup => some (fun ls st => match st with | v :: r => if aCat v = 1 then some (pc + 1, ls, v :: v :: r) else none | _ => none)
  | .pop => some (fun ls st => match st with | v :: r => if aCat v = 1 then some (pc + 1, ls, r) else none | _ => none)
  | .dup2 => some (fun ls st => match st with | v :: w :: r => if aCat v = 1 ∧ aCat w = 1 then some (pc + 1, ls, v :: w :: v :: w :: r) else none | _ => none)
  | .ifCond c _ => some (aIf1 c b (pc + 3))
  | .if_icmp c _ => some (aIf2 c b (pc + 3))
  | .goto _ => some (fun ls st => some (b, ls, st))
  | .tableswitch d lo hi o => some (aJmpT d lo hi o pc b)
  | .lookupswitch d o => some (aJmpL d o pc b)
  | _ => none
variable {ls ls' : aL} {st st' : List aV} {cl : mjL} {cs : List Value} {p p' : Nat}
theorem aLd_ok {kd k : Nat} (h : aLd kd k p ls st = some (p', ls', st')) (hl : aLR ls cl) (hs : aSR st cs) : ∃ (a : aV) (v : Value), aK a = kd ∧ mjGet cl k = some v ∧ aVR a v ∧ p' = p ∧ ls' = ls ∧ aSR st' (v :: cs) := by
  unfold aLd at h
  split at h
  · rename_i a ha
    split at h
    · rename_i hk
      have hk := Nat.eq_of_beq_eq_true hk
      cases h
      obtain ⟨v, h1, h2⟩ := aLR_get hl ha
      exact ⟨a, v, hk, h1, h2, rfl, rfl, h2, hs⟩
    · cases h
  · cases h
theorem aSo_ok {kd k : Nat} (h : aSo kd k p ls st = some (p', ls', st')) (hl : aLR ls cl) (hs : aSR st cs) : ∃ (a : aV) (v : Value) (r : List Value), aK a = kd ∧ aVR a v ∧ cs = v :: r ∧ p' = p ∧ aLR ls' (mjSt k v cl) ∧ aSR st' r := by
  unfold aSo at h
  split at h
  · rename_i a r
    split at h
    · rename_i hk
      have hk := Nat.eq_of_beq_eq_true hk
      cases h
      obtain ⟨v, vs, rfl, h1, h2⟩ := aSR_c hs
      exact ⟨a, v, vs, hk, h1, rfl, rfl, aLR_st hl h1, h2⟩
    · cases h
  · cases h
theorem aSw_ok {kd k : Nat} (h : aSw kd k p ls st = some (p', ls', st')) (hl : aLR ls cl) (hs : aSR st cs) : ∃ (a : aV) (v : Value) (r : List Value), aK a = kd ∧ aVR a v ∧ cs = v :: r ∧ p' = p ∧ aLR ls' (mjSt2 k v cl) ∧ aSR st' r := by
  unfold aSw at h
  split at h
  · rename_i a r
    split at h
    · rename_i hk
      have hk := Nat.eq_of_beq_eq_true hk
      cases h
      obtain ⟨v, vs, rfl, h1, h2⟩ := aSR_c hs
      exact ⟨a, v, vs, hk, h1, rfl, rfl, aLR_st2 hl h1, h2⟩
    · cases h
  · cases h
theorem aInc_ok {k : Nat} {n : Int32} (h : aInc k n p ls st = some (p', ls', st')) (hl : aLR ls cl) (hs : aSR st cs) : ∃ x : Int32, mjGet cl k = some (.int x) ∧ p' = p ∧ aLR ls' (mjSt k (.int (x + n)) cl) ∧ st' = st := by
  unfold aInc at h
  split at h
  · rename_i x ha
    cases h
    obtain ⟨v, h1, h2⟩ := aLR_get hl ha
    cases (show v = .int x from h2)
    exact ⟨x, h1, rfl, aLR_st hl rfl, rfl⟩
  · rename_i a ha
    split at h
    · rename_i hk
      cases h
      obtain ⟨v, h1, h2⟩ := aLR_get hl ha
      obtain ⟨x, rfl⟩ := aK0 h2 hk
      exact ⟨x, h1, rfl, aLR_st hl (aAnyI_r _), rfl⟩
    · cases h
  · cases h
theorem aB32_ok {f : Int32 → Int32 → Int32} {y x r : aV} {vy vx : Value} (h : aB32 f y x = some r) (hy : aVR y vy) (hx : aVR x vx) : ∃ b a : Int32, vy = .int b ∧ vx = .int a ∧ aVR r (.int (f a b)) := by
  unfold aB32 at h
  split at h
  · rename_i b a
    cases h
    exact ⟨b, a, hy, hx, rfl⟩
  · split at h
    · rename_i hk
      cases h
      obtain ⟨b, rfl⟩ := aK0 hy hk.1
      obtain ⟨a, rfl⟩ := aK0 hx hk.2
      exact ⟨b, a, rfl, rfl, aAnyI_r _⟩
    · cases h
theorem aB64_ok {f : Int64 → Int64 → Int64} {y x r : aV} {vy vx : Value} (h : aB64 f y x = some r) (hy : aVR y vy) (hx : aVR x vx) : ∃ b a : Int64, vy = .long b ∧ vx = .long a ∧ aVR r (.long (f a b)) := by
  unfold aB64 at h
  split at h
  · rename_i b a
    cases h
    exact ⟨b, a, hy, hx, rfl⟩
  · split at h
    · rename_i hk
      cases h
      obtain ⟨b, rfl⟩ := aK1 hy hk.1
      obtain ⟨a, rfl⟩ := aK1 hx hk.2
      exact ⟨b, a, rfl, rfl, aAnyJ_r _⟩
    · cases h
theorem aS64_ok {f : Int64 → Int32 → Int64} {y x r : aV} {vy vx : Value} (h : aS64 f y x = some r) (hy : aVR y vy) (hx : aVR x vx) : ∃ (b : Int32) (a : Int64), vy = .int b ∧ vx = .long a ∧ aVR r (.long (f a b)) := by
  unfold aS64 at h
  split at h
  · rename_i b a
    cases h
    exact ⟨b, a, hy, hx, rfl⟩
  · split at h
    · rename_i hk
      cases h
      obtain ⟨b, rfl⟩ := aK0 hy hk.1
      obtain ⟨a, rfl⟩ := aK1 hx hk.2
      exact ⟨b, a, rfl, rfl, aAnyJ_r _⟩
    · cases h
theorem aBin_ok {g : aV → aV → Option aV} (h : aBin g p ls st = some (p', ls', st')) (hs : aSR st cs) : ∃ (y x v : aV) (vy vx : Value) (r : List aV) (cr : List Value), g y x = some v ∧ cs = vy :: vx :: cr ∧ aVR y vy ∧ aVR x vx ∧ aSR r cr ∧ st' = v :: r ∧ p' = p ∧ ls' = ls := by
  unfold aBin at h
  split at h
  · rename_i y x r
    split at h
    · rename_i v hv
      cases h
      obtain ⟨vy, c1, rfl, h1, h2⟩ := aSR_c hs
      obtain ⟨vx, c2, rfl, h3, h4⟩ := aSR_c h2
      exact ⟨y, x, v, vy, vx, r, c2, hv, rfl, h1, h3, h4, rfl, rfl, rfl⟩
    · cases h
  · cases h
theorem aUn_ok {g : aV → Option aV} (h : aUn g p ls st = some (p', ls', st')) (hs : aSR st cs) : ∃ (x v : aV) (vx : Value) (r : List aV) (cr : List Value), g x = some v ∧ cs = vx :: cr ∧ aVR x vx ∧ aSR r cr ∧ st' = v :: r ∧ p' = p ∧ ls' = ls := by
  unfold aUn at h
  split at h
  · rename_i x r
    split at h
    · rename_i v hv
      cases h
      obtain ⟨vx, c1, rfl, h1, h2⟩ := aSR_c hs
      exact ⟨x, v, vx, r, c1, hv, rfl, h1, h2, rfl, rfl, rfl⟩
    · cases h
  · cases h
theorem aRg0 {a : aV} {x : Int32} (h : aVR a (.int x)) : (aRg a).1 ≤ x.toInt ∧ x.toInt ≤ (aRg a).2 := by
  match a, h with
  | .inl w, h => cases (show Value.int x = w from h); exact ⟨Int.le_refl _, Int.le_refl _⟩
  | .inr (false, lo, hi), h => obtain ⟨y, e, h1, h2⟩ := h; cases e; exact ⟨h1, h2⟩
  | .inr (true, lo, hi), h => obtain ⟨y, e, h1, h2⟩ := h; cases e
theorem aRg1 {a : aV} {x : Int64} (h : aVR a (.long x)) : (aRg a).1 ≤ x.toInt ∧ x.toInt ≤ (aRg a).2 := by
  match a, h with
  | .inl w, h => cases (show Value.long x = w from h); exact ⟨Int.le_refl _, Int.le_refl _⟩
  | .inr (false, lo, hi), h => obtain ⟨y, e, h1, h2⟩ := h; cases e
  | .inr (true, lo, hi), h => obtain ⟨y, e, h1, h2⟩ := h; cases e; exact ⟨h1, h2⟩
theorem aCmpR_ok {c : Jvm.ClassFile.Cond} {P Q : Int × Int} {x y : Int32} {t : Bool} (h : aCmpR c P Q = some t) (hx : P.1 ≤ x.toInt ∧ x.toInt ≤ P.2) (hy : Q.1 ≤ y.toInt ∧ y.toInt ≤ Q.2) : mjC c x y = t := by
  cases c <;> simp only [aCmpR] at h <;> (repeat' split at h) <;> (try cases h) <;> simp only [mjC, decide_eq_true_eq, decide_eq_false_iff_not, Int32.lt_iff_toInt_lt, Int32.le_iff_toInt_le, ← Int32.toInt_inj] <;> omega
theorem aCmp_ok {c : Jvm.ClassFile.Cond} {ax ay : aV} {vx vy : Value} {t : Bool} (h : aCmp c ax ay = some t) (hx : aVR ax vx) (hy : aVR ay vy) : ∃ x y : Int32, vx = .int x ∧ vy = .int y ∧ mjC c x y = t := by
  unfold aCmp at h
  split at h
  · rename_i a b
    cases h
    exact ⟨a, b, hx, hy, rfl⟩
  · split at h
    · rename_i hk
      obtain ⟨a, rfl⟩ := aK0 hx hk.1
      obtain ⟨b, rfl⟩ := aK0 hy hk.2
      exact ⟨a, b, rfl, rfl, aCmpR_ok h (aRg0 hx) (aRg0 hy)⟩
    · cases h
theorem aLcmp_ok {y x r : aV} {vy vx : Value} (h : aLcmp y x = some r) (hy : aVR y vy) (hx : aVR x vx) : ∃ b a : Int64, vy = .long b ∧ vx = .long a ∧ aVR r (.int (lg_cmp a b)) := by
  unfold aLcmp at h
  split at h
  · rename_i b a
    cases h
    exact ⟨b, a, hy, hx, rfl⟩
  · split at h
    · rename_i hk
      obtain ⟨b, rfl⟩ := aK1 hy hk.1
      obtain ⟨a, rfl⟩ := aK1 hx hk.2
      have h1 := aRg1 hx
      have h2 := aRg1 hy
      refine ⟨b, a, rfl, rfl, ?_⟩
      split at h
      · cases h
        have h3 : a < b := Int64.lt_iff_toInt_lt.mpr (by omega)
        have h4 : ¬ a > b := fun q => by have := Int64.lt_iff_toInt_lt.mp q; have := Int64.lt_iff_toInt_lt.mp h3; omega
        have h5 : ¬ a = b := fun q => by subst q; exact h4 h3
        show Value.int (lg_cmp a b) = .int (-1)
        unfold lg_cmp
        rw [if_neg h4, if_neg h5]
      · split at h
        · cases h
          have h3 : a > b := Int64.lt_iff_toInt_lt.mpr (by omega)
          show Value.int (lg_cmp a b) = .int 1
          unfold lg_cmp
          rw [if_pos h3]
        · cases h
    · cases h
theorem shl32 {x : Int64} (h1 : -2147483648 ≤ x.toInt) (h2 : x.toInt ≤ 2147483647) : (x <<< ((32 : Int32).toInt64 &&& 63)).toInt = x.toInt * 4294967296 := by
  have e : (x <<< ((32 : Int32).toInt64 &&& 63)) = x * 4294967296 := by
    have h0 : ((32 : Int32).toInt64 &&& 63) = (32 : Int64) := by decide
    rw [h0]
    apply Int64.toBitVec_inj.mp
    show x.toBitVec <<< (BitVec.smod (32#64) 64#64) = x.toBitVec * 4294967296#64
    rw [show BitVec.smod (32#64) 64#64 = 32#64 by decide]
    show x.toBitVec <<< (32#64).toNat = _
    rw [BitVec.shiftLeft_eq_mul_twoPow]
    rfl
  rw [e, Int64.toInt_mul]
  have h3 : (4294967296 : Int64).toInt = 4294967296 := by decide
  rw [h3]
  apply Int.bmod_eq_of_le <;> omega
theorem ushr0 (x : Int64) : (x.toUInt64 >>> ((0 : Int32).toInt64.toUInt64 &&& Int64.toUInt64 63)).toInt64 = x := by
  have h0 : ((0 : Int32).toInt64.toUInt64 &&& Int64.toUInt64 63) = (0 : UInt64) := by decide
  rw [h0, UInt64.shiftRight_zero]
  rfl
theorem toInt_cond (x : Int64) : x.toInt = if 2 * x.toBitVec.toNat < 18446744073709551616 then (x.toBitVec.toNat : Int) else (x.toBitVec.toNat : Int) - 18446744073709551616 := by
  show x.toBitVec.toInt = _
  rw [BitVec.toInt_eq_toNat_cond]
  rfl
theorem land32 (x : Int64) : (x &&& 4294967295).toBitVec.toNat = x.toBitVec.toNat % 4294967296 := by
  show (x.toBitVec &&& 4294967295#64).toNat = _
  rw [BitVec.toNat_and]
  show x.toBitVec.toNat &&& (2 ^ 32 - 1) = _
  rw [Nat.and_two_pow_sub_one_eq_mod]
theorem aShl_ok {y x r : aV} {vy vx : Value} (h : aShl y x = some r) (hy : aVR y vy) (hx : aVR x vx) : ∃ (b : Int32) (a : Int64), vy = .int b ∧ vx = .long a ∧ aVR r (.long (a <<< (b.toInt64 &&& 63))) := by
  unfold aShl at h
  split at h
  · rename_i b lo hi
    cases (show vy = .int b from hy)
    obtain ⟨a, rfl, h1, h2⟩ := hx
    refine ⟨b, a, rfl, rfl, ?_⟩
    split at h
    · rename_i hc
      cases h
      obtain ⟨rfl, h3, h4⟩ := hc
      refine ⟨_, rfl, ?_, ?_⟩ <;> rw [shl32 (by omega) (by omega)] <;> omega
    · cases h
      exact aAnyJ_r _
  · exact aS64_ok h hy hx
theorem aUshr_ok {y x r : aV} {vy vx : Value} (h : aUshr y x = some r) (hy : aVR y vy) (hx : aVR x vx) : ∃ (b : Int32) (a : Int64), vy = .int b ∧ vx = .long a ∧ aVR r (.long (a.toUInt64 >>> (b.toInt64.toUInt64 &&& Int64.toUInt64 63)).toInt64) := by
  unfold aUshr at h
  split at h
  · rename_i b lo hi
    cases (show vy = .int b from hy)
    obtain ⟨a, rfl, h1, h2⟩ := hx
    refine ⟨b, a, rfl, rfl, ?_⟩
    split at h
    · rename_i hc
      cases h
      subst hc
      rw [ushr0]
      exact ⟨a, rfl, h1, h2⟩
    · cases h
      exact aAnyJ_r _
  · exact aS64_ok h hy hx
theorem aLand_ok {y x r : aV} {vy vx : Value} (h : aLand y x = some r) (hy : aVR y vy) (hx : aVR x vx) : ∃ b a : Int64, vy = .long b ∧ vx = .long a ∧ aVR r (.long (a &&& b)) := by
  unfold aLand at h
  split at h
  · rename_i b lo hi
    cases (show vy = .long b from hy)
    obtain ⟨a, rfl, h1, h2⟩ := hx
    refine ⟨b, a, rfl, rfl, ?_⟩
    have h5 := land32 a
    have h6 := toInt_cond (a &&& 4294967295)
    have h7 := toInt_cond a
    have h8 := a.toBitVec.isLt
    split at h
    · rename_i hc
      cases h
      obtain ⟨rfl, h3, h4⟩ := hc
      refine ⟨_, rfl, ?_, ?_⟩ <;> rw [h6, h5] <;> split at h7 <;> split <;> omega
    · split at h
      · rename_i hc
        cases h
        obtain ⟨rfl, h3, h4⟩ := hc
        refine ⟨_, rfl, ?_, ?_⟩ <;> rw [h6, h5] <;> split at h7 <;> split <;> omega
      · cases h
        exact aAnyJ_r _
  · exact aB64_ok h hy hx
theorem aLor_ok {y x r : aV} {vy vx : Value} (h : aLor y x = some r) (hy : aVR y vy) (hx : aVR x vx) : ∃ b a : Int64, vy = .long b ∧ vx = .long a ∧ aVR r (.long (a ||| b)) := by
  unfold aLor at h
  split at h
  · rename_i b a
    cases h
    exact ⟨b, a, hy, hx, rfl⟩
  · split at h
    · rename_i hk
      obtain ⟨b, rfl⟩ := aK1 hy hk.1
      obtain ⟨a, rfl⟩ := aK1 hx hk.2
      have h1 := aRg1 hx
      have h2 := aRg1 hy
      refine ⟨b, a, rfl, rfl, ?_⟩
      have ho : (a ||| b).toBitVec.toNat = a.toBitVec.toNat ||| b.toBitVec.toNat := BitVec.toNat_or ..
      have l1 : a.toBitVec.toNat ≤ a.toBitVec.toNat ||| b.toBitVec.toNat := Nat.left_le_or
      have l2 : b.toBitVec.toNat ≤ a.toBitVec.toNat ||| b.toBitVec.toNat := Nat.right_le_or
      have h6 := toInt_cond (a ||| b)
      have h7 := toInt_cond a
      have h8 := toInt_cond b
      have h9 := (a ||| b).toBitVec.isLt
      rw [ho] at h6 h9
      split at h
      · rename_i hc
        cases h
        refine ⟨_, rfl, ?_, ?_⟩ <;> split at h6 <;> split at h7 <;> omega
      · split at h
        · rename_i hc
          cases h
          have ha : a.toBitVec.toNat < 2 ^ 63 := by split at h7 <;> omega
          have hb : b.toBitVec.toNat < 2 ^ 63 := by split at h8 <;> omega
          have hlt := Nat.or_lt_two_pow ha hb
          have hge1 : a.toInt ≤ (a ||| b).toInt := by split at h6 <;> split at h7 <;> omega
          have hge2 : b.toInt ≤ (a ||| b).toInt := by split at h6 <;> split at h8 <;> omega
          have hle := Int64.toInt_lt (a ||| b)
          exact ⟨_, rfl, by omega, by omega⟩
        · cases h
          exact aAnyJ_r _
    · cases h
theorem aAlu_ok {i : Instr} {pc b : Nat} {F : aFn} (h : aAlu i pc b = some F) (hr : F ls st = some (p', ls', st')) (hl : aLR ls cl) (hs : aSR st cs) : ∃ (cl' : mjL) (cs' : List Value), mjAlu i pc b cl cs = some (p', cl', cs') ∧ aLR ls' cl' ∧ aSR st' cs' := by
  cases i <;> simp only [aAlu] at h
  case iconst => cases h; cases hr; exact ⟨_, _, rfl, hl, rfl, hs⟩
  case bipush => cases h; cases hr; exact ⟨_, _, rfl, hl, rfl, hs⟩
  case sipush => cases h; cases hr; exact ⟨_, _, rfl, hl, rfl, hs⟩
  case lconst => cases h; cases hr; exact ⟨_, _, rfl, hl, rfl, hs⟩
  case iload_n => cases h; obtain ⟨a, v, h1, h2, h3, rfl, rfl, h4⟩ := aLd_ok hr hl hs; obtain ⟨x, rfl⟩ := aK0 h3 h1; exact ⟨_, _, by simp only [mjAlu, h2], hl, h4⟩
  case iload => cases h; obtain ⟨a, v, h1, h2, h3, rfl, rfl, h4⟩ := aLd_ok hr hl hs; obtain ⟨x, rfl⟩ := aK0 h3 h1; exact ⟨_, _, by simp only [mjAlu, h2], hl, h4⟩
  case lload_n => cases h; obtain ⟨a, v, h1, h2, h3, rfl, rfl, h4⟩ := aLd_ok hr hl hs; obtain ⟨x, rfl⟩ := aK1 h3 h1; exact ⟨_, _, by simp only [mjAlu, h2], hl, h4⟩
  case lload => cases h; obtain ⟨a, v, h1, h2, h3, rfl, rfl, h4⟩ := aLd_ok hr hl hs; obtain ⟨x, rfl⟩ := aK1 h3 h1; exact ⟨_, _, by simp only [mjAlu, h2], hl, h4⟩
  case aload_n => cases h; obtain ⟨a, v, h1, h2, h3, rfl, rfl, h4⟩ := aLd_ok hr hl hs; obtain ⟨x, rfl⟩ := aK2 h3 h1; exact ⟨_, _, by simp only [mjAlu, h2], hl, h4⟩
  case aload => cases h; obtain ⟨a, v, h1, h2, h3, rfl, rfl, h4⟩ := aLd_ok hr hl hs; obtain ⟨x, rfl⟩ := aK2 h3 h1; exact ⟨_, _, by simp only [mjAlu, h2], hl, h4⟩
  case istore_n => cases h; obtain ⟨a, v, r, h1, h2, rfl, rfl, h3, h4⟩ := aSo_ok hr hl hs; obtain ⟨x, rfl⟩ := aK0 h2 h1; exact ⟨_, _, rfl, h3, h4⟩
  case istore => cases h; obtain ⟨a, v, r, h1, h2, rfl, rfl, h3, h4⟩ := aSo_ok hr hl hs; obtain ⟨x, rfl⟩ := aK0 h2 h1; exact ⟨_, _, rfl, h3, h4⟩
  case lstore_n => cases h; obtain ⟨a, v, r, h1, h2, rfl, rfl, h3, h4⟩ := aSw_ok hr hl hs; obtain ⟨x, rfl⟩ := aK1 h2 h1; exact ⟨_, _, rfl, h3, h4⟩
  case lstore => cases h; obtain ⟨a, v, r, h1, h2, rfl, rfl, h3, h4⟩ := aSw_ok hr hl hs; obtain ⟨x, rfl⟩ := aK1 h2 h1; exact ⟨_, _, rfl, h3, h4⟩
  case astore_n => cases h; obtain ⟨a, v, r, h1, h2, rfl, rfl, h3, h4⟩ := aSo_ok hr hl hs; obtain ⟨x, rfl⟩ := aK2 h2 h1; exact ⟨_, _, rfl, h3, h4⟩
  case astore => cases h; obtain ⟨a, v, r, h1, h2, rfl, rfl, h3, h4⟩ := aSo_ok hr hl hs; obtain ⟨x, rfl⟩ := aK2 h2 h1; exact ⟨_, _, rfl, h3, h4⟩
  case iinc => cases h; obtain ⟨x, h1, rfl, h2, rfl⟩ := aInc_ok hr hl hs; exact ⟨_, _, by simp only [mjAlu, h1], h2, hs⟩
  case irem =>
    cases h
    obtain ⟨y, x, v, vy, vx, r, cr, hg, rfl, hy, hx, hr2, rfl, rfl, rfl⟩ := aBin_ok hr hs
    unfold aRem at hg
    split at hg
    · rename_i b0 a0
      split at hg
      · cases hg
      · rename_i h0
        cases hg
        cases (show vy = .int b0 from hy)
        cases (show vx = .int a0 from hx)
        exact ⟨cl, .int (a0 - a0 / b0 * b0) :: cr, by simp only [mjAlu, if_neg h0], hl, rfl, hr2⟩
    · cases hg
  case lshl => cases h; obtain ⟨y, x, v, vy, vx, r, cr, hg, rfl, hy, hx, hr2, rfl, rfl, rfl⟩ := aBin_ok hr hs; obtain ⟨b0, a0, rfl, rfl, hv⟩ := aShl_ok hg hy hx; exact ⟨_, _, rfl, hl, hv, hr2⟩
  case lushr => cases h; obtain ⟨y, x, v, vy, vx, r, cr, hg, rfl, hy, hx, hr2, rfl, rfl, rfl⟩ := aBin_ok hr hs; obtain ⟨b0, a0, rfl, rfl, hv⟩ := aUshr_ok hg hy hx; exact ⟨_, _, rfl, hl, hv, hr2⟩
  case land => cases h; obtain ⟨y, x, v, vy, vx, r, cr, hg, rfl, hy, hx, hr2, rfl, rfl, rfl⟩ := aBin_ok hr hs; obtain ⟨b0, a0, rfl, rfl, hv⟩ := aLand_ok hg hy hx; exact ⟨_, _, rfl, hl, hv, hr2⟩
  case lor => cases h; obtain ⟨y, x, v, vy, vx, r, cr, hg, rfl, hy, hx, hr2, rfl, rfl, rfl⟩ := aBin_ok hr hs; obtain ⟨b0, a0, rfl, rfl, hv⟩ := aLor_ok hg hy hx; exact ⟨_, _, rfl, hl, hv, hr2⟩
  case lcmp => cases h; obtain ⟨y, x, v, vy, vx, r, cr, hg, rfl, hy, hx, hr2, rfl, rfl, rfl⟩ := aBin_ok hr hs; obtain ⟨b0, a0, rfl, rfl, hv⟩ := aLcmp_ok hg hy hx; exact ⟨_, _, rfl, hl, hv, hr2⟩
  case i2l =>
    cases h
    obtain ⟨x, v, vx, r, cr, hg, rfl, hx, hr2, rfl, rfl, rfl⟩ := aUn_ok hr hs
    unfold aI2l at hg
    split at hg
    · cases hg; rename_i a0; cases (show vx = .int a0 from hx); exact ⟨_, _, rfl, hl, rfl, hr2⟩
    · cases hg; obtain ⟨z, rfl, h1, h2⟩ := hx; exact ⟨_, _, rfl, hl, ⟨z.toInt64, rfl, by rw [Int32.toInt_toInt64]; exact h1, by rw [Int32.toInt_toInt64]; exact h2⟩, hr2⟩
    · cases hg
  case l2i =>
    cases h
    obtain ⟨x, v, vx, r, cr, hg, rfl, hx, hr2, rfl, rfl, rfl⟩ := aUn_ok hr hs
    unfold aL2i at hg
    split at hg
    · cases hg; rename_i a0; cases (show vx = .long a0 from hx); exact ⟨_, _, rfl, hl, rfl, hr2⟩
    · cases hg; obtain ⟨z, rfl, h1, h2⟩ := hx; exact ⟨_, _, rfl, hl, aAnyI_r _, hr2⟩
    · cases hg
  case i2b =>
    cases h
    obtain ⟨x, v, vx, r, cr, hg, rfl, hx, hr2, rfl, rfl, rfl⟩ := aUn_ok hr hs
    unfold aI2b at hg
    split at hg
    · cases hg; rename_i a0; cases (show vx = .int a0 from hx); exact ⟨_, _, rfl, hl, rfl, hr2⟩
    · cases hg; obtain ⟨z, rfl, h1, h2⟩ := hx; exact ⟨_, _, rfl, hl, aAnyI_r _, hr2⟩
    · cases hg
  case dup =>
    cases h
    dsimp only at hr
    split at hr
    · split at hr
      · rename_i hc
        cases hr
        obtain ⟨v, vs, rfl, h1, h2⟩ := aSR_c hs
        exact ⟨cl, v :: v :: vs, by simp only [mjAlu]; rw [if_pos ((aVR_cat h1).trans hc)], hl, h1, h1, h2⟩
      · cases hr
    · cases hr
  case pop =>
    cases h
    dsimp only at hr
    split at hr
    · split at hr
      · rename_i hc
        cases hr
        obtain ⟨v, vs, rfl, h1, h2⟩ := aSR_c hs
        exact ⟨_, _, by simp only [mjAlu]; rw [if_pos ((aVR_cat h1).trans hc)], hl, h2⟩
      · cases hr
    · cases hr
  case dup2 =>
    cases h
    dsimp only at hr
    split at hr
    · split at hr
      · rename_i hc
        cases hr
        obtain ⟨v, vs, rfl, h1, h2⟩ := aSR_c hs
        obtain ⟨w, ws, rfl, h3, h4⟩ := aSR_c h2
        exact ⟨cl, v :: w :: v :: w :: ws, by simp only [mjAlu]; rw [if_pos ⟨(aVR_cat h1).trans hc.1, (aVR_cat h3).trans hc.2⟩], hl, h1, h3, h1, h3, h4⟩
      · cases hr
    · cases hr
  case ifCond =>
    cases h
    simp only [aIf1] at hr
    split at hr
    · split at hr
      · rename_i t ht
        cases hr
        obtain ⟨v, vs, rfl, h1, h2⟩ := aSR_c hs
        obtain ⟨x, y, rfl, e, h3⟩ := aCmp_ok ht h1 (show aVR (.inl (.int 0)) (.int 0) from rfl)
        cases e
        exact ⟨_, _, by simp only [mjAlu, h3], hl, h2⟩
      · cases hr
    · cases hr
  case if_icmp =>
    cases h
    simp only [aIf2] at hr
    split at hr
    · split at hr
      · rename_i t ht
        cases hr
        obtain ⟨v, vs, rfl, h1, h2⟩ := aSR_c hs
        obtain ⟨w, ws, rfl, h3, h4⟩ := aSR_c h2
        obtain ⟨x, y, rfl, rfl, h5⟩ := aCmp_ok ht h3 h1
        exact ⟨_, _, by simp only [mjAlu, h5], hl, h4⟩
      · cases hr
    · cases hr
  case goto => cases h; cases hr; exact ⟨_, _, rfl, hl, hs⟩
  case tableswitch d lo hi o =>
    cases h
    simp only [aJmpT] at hr
    split at hr
    · rename_i x r
      obtain ⟨v, vs, rfl, h1, h2⟩ := aSR_c hs
      cases (show v = .int x from h1)
      have key : mjAlu (.tableswitch d lo hi o) pc b cl (.int x :: vs) = (mjAlu (.tableswitch d lo hi o) pc b [] [.int x]).map (fun q => (q.1, cl, vs)) := by
        simp only [mjAlu]
        split
        · split <;> rfl
        · split
          · split <;> rfl
          · rfl
      split at hr
      · rename_i q1 q2 q3 hq
        cases hr
        exact ⟨_, _, by rw [key, hq]; rfl, hl, h2⟩
      · cases hr
    · rename_i x y r
      obtain ⟨v, vs, rfl, h1, h2⟩ := aSR_c hs
      obtain ⟨z, rfl, h3, h4⟩ := h1
      split at hr
      · rename_i hc
        cases hr
        refine ⟨cl, vs, ?_, hl, h2⟩
        simp only [mjAlu]
        rw [if_pos (by omega), if_pos hc.2]
      · cases hr
    · cases hr
  case lookupswitch d o =>
    cases h
    simp only [aJmpL] at hr
    split at hr
    · rename_i x r
      obtain ⟨v, vs, rfl, h1, h2⟩ := aSR_c hs
      cases (show v = .int x from h1)
      have key : mjAlu (.lookupswitch d o) pc b cl (.int x :: vs) = (mjAlu (.lookupswitch d o) pc b [] [.int x]).map (fun q => (q.1, cl, vs)) := by
        simp only [mjAlu]
        split <;> rfl
      split at hr
      · rename_i q1 q2 q3 hq
        cases hr
        exact ⟨_, _, by rw [key, hq]; rfl, hl, h2⟩
      · cases hr
    · rename_i x y r
      obtain ⟨v, vs, rfl, h1, h2⟩ := aSR_c hs
      obtain ⟨z, rfl, h3, h4⟩ := h1
      split at hr
      · rename_i hc
        cases hr
        have hof : Op.lookupswitch.offset o.toList d z.toInt = d := Op.lookupswitch.offset_none (by
          rw [List.find?_eq_none]
          intro q hq
          have := List.all_eq_true.mp hc.1 q hq
          simp only [decide_eq_true_eq] at this
          simp only [beq_iff_eq]
          omega)
        refine ⟨cl, vs, ?_, hl, h2⟩
        simp only [mjAlu]
        rw [hof, if_pos ⟨hc.2.1, hc.2.2⟩]
      · cases hr
    · cases hr
  all_goals first
    | (cases h; done)
    | (cases h; obtain ⟨y, x, v, vy, vx, r, cr, hg, rfl, hy, hx, hr2, rfl, rfl, rfl⟩ := aBin_ok hr hs; obtain ⟨b0, a0, rfl, rfl, hv⟩ := aB32_ok hg hy hx; exact ⟨_, _, rfl, hl, hv, hr2⟩)
    | (cases h; obtain ⟨y, x, v, vy, vx, r, cr, hg, rfl, hy, hx, hr2, rfl, rfl, rfl⟩ := aBin_ok hr hs; obtain ⟨b0, a0, rfl, rfl, hv⟩ := aB64_ok hg hy hx; exact ⟨_, _, rfl, hl, hv, hr2⟩)
    | (cases h; obtain ⟨y, x, v, vy, vx, r, cr, hg, rfl, hy, hx, hr2, rfl, rfl, rfl⟩ := aBin_ok hr hs; obtain ⟨b0, a0, rfl, rfl, hv⟩ := aS64_ok hg hy hx; exact ⟨_, _, rfl, hl, hv, hr2⟩)
end AJALU

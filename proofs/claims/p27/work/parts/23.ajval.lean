/-! AJ: values known in part: exact, or an int or a long between two bounds -/
section AJVAL
abbrev aV : Type := Value ⊕ (Bool × Int × Int)
abbrev aL : Type := List (Nat × aV)
def aVR : aV → Value → Prop
  | .inl w, v => v = w
  | .inr (false, lo, hi), v => ∃ x : Int32, v = .int x ∧ lo ≤ x.toInt ∧ x.toInt ≤ hi
  | .inr (true, lo, hi), v => ∃ x : Int64, v = .long x ∧ lo ≤ x.toInt ∧ x.toInt ≤ hi
def aK : aV → Nat
  | .inl (.int _) => 0
  | .inl (.long _) => 1
  | .inl (.ref _) => 2
  | .inl _ => 3
  | .inr (false, _, _) => 0
  | .inr (true, _, _) => 1
def aCat : aV → Nat
  | .inl v => v.category
  | .inr (false, _, _) => 1
  | .inr (true, _, _) => 2
def aSc (n : Nat) : aV → Bool
  | .inl v => mjSc n v
  | .inr _ => true
abbrev aAnyI : aV := .inr (false, -2147483648, 2147483647)
abbrev aAnyJ : aV := .inr (true, -9223372036854775808, 9223372036854775807)
theorem aVR_cat {a : aV} {v : Value} (h : aVR a v) : v.category = aCat a := by
  match a, h with
  | .inl w, h => cases (show v = w from h); rfl
  | .inr (false, lo, hi), h => obtain ⟨x, rfl, -⟩ := h; rfl
  | .inr (true, lo, hi), h => obtain ⟨x, rfl, -⟩ := h; rfl
theorem aVR_sc {a : aV} {v : Value} {n : Nat} (h : aVR a v) (hs : aSc n a = true) : mjSc n v = true := by
  match a, h with
  | .inl w, h => cases (show v = w from h); exact hs
  | .inr (false, lo, hi), h => obtain ⟨x, rfl, -⟩ := h; rfl
  | .inr (true, lo, hi), h => obtain ⟨x, rfl, -⟩ := h; rfl
theorem aK0 {a : aV} {v : Value} (h : aVR a v) (hk : aK a = 0) : ∃ x, v = .int x := by
  match a, h with
  | .inl w, h => cases (show v = w from h); cases v <;> simp [aK] at hk; exact ⟨_, rfl⟩
  | .inr (false, lo, hi), h => obtain ⟨x, rfl, -⟩ := h; exact ⟨x, rfl⟩
  | .inr (true, lo, hi), h => cases hk
theorem aK1 {a : aV} {v : Value} (h : aVR a v) (hk : aK a = 1) : ∃ x, v = .long x := by
  match a, h with
  | .inl w, h => cases (show v = w from h); cases v <;> simp [aK] at hk; exact ⟨_, rfl⟩
  | .inr (false, lo, hi), h => cases hk
  | .inr (true, lo, hi), h => obtain ⟨x, rfl, -⟩ := h; exact ⟨x, rfl⟩
theorem aK2 {a : aV} {v : Value} (h : aVR a v) (hk : aK a = 2) : ∃ x, v = .ref x := by
  match a, h with
  | .inl w, h => cases (show v = w from h); cases v <;> simp [aK] at hk; exact ⟨_, rfl⟩
  | .inr (false, lo, hi), h => cases hk
  | .inr (true, lo, hi), h => cases hk
theorem aAnyI_r (x : Int32) : aVR aAnyI (.int x) := by
  have h1 := Int32.le_toInt x
  have h2 := Int32.toInt_lt x
  exact ⟨x, rfl, by omega, by omega⟩
theorem aAnyJ_r (x : Int64) : aVR aAnyJ (.long x) := by
  have h1 := Int64.le_toInt x
  have h2 := Int64.toInt_lt x
  exact ⟨x, rfl, by omega, by omega⟩
/-- lists -/
def aSR : List aV → List Value → Prop
  | [], [] => True
  | a :: as, v :: vs => aVR a v ∧ aSR as vs
  | _, _ => False
def aLR : aL → mjL → Prop
  | [], [] => True
  | a :: as, v :: vs => (a.1 = v.1 ∧ aVR a.2 v.2) ∧ aLR as vs
  | _, _ => False
theorem aSR_c {a : aV} {as : List aV} {vs : List Value} (h : aSR (a :: as) vs) : ∃ v vs', vs = v :: vs' ∧ aVR a v ∧ aSR as vs' := by
  cases vs with
  | nil => exact h.elim
  | cons v vs' => exact ⟨v, vs', rfl, h.1, h.2⟩
theorem aSR_n {vs : List Value} (h : aSR [] vs) : vs = [] := by
  cases vs with
  | nil => rfl
  | cons v vs' => exact h.elim
theorem aSR_app {as bs : List aV} : ∀ {vs ws : List Value}, aSR as vs → aSR bs ws → aSR (as ++ bs) (vs ++ ws) := by
  induction as with
  | nil => intro vs ws h1 h2; cases aSR_n h1; exact h2
  | cons a as ih =>
    intro vs ws h1 h2
    obtain ⟨v, vs', rfl, h3, h4⟩ := aSR_c h1
    exact ⟨h3, ih h4 h2⟩
theorem aSR_len {as : List aV} : ∀ {vs : List Value}, aSR as vs → vs.length = as.length := by
  induction as with
  | nil => intro vs h; cases aSR_n h; rfl
  | cons a as ih =>
    intro vs h
    obtain ⟨v, vs', rfl, -, h4⟩ := aSR_c h
    simp [ih h4]
theorem aSR_split {as : List aV} : ∀ {vs : List Value} (n : Nat), aSR as vs → aSR (as.take n) (vs.take n) ∧ aSR (as.drop n) (vs.drop n) := by
  induction as with
  | nil => intro vs n h; cases aSR_n h; simp [aSR]
  | cons a as ih =>
    intro vs n h
    obtain ⟨v, vs', rfl, h3, h4⟩ := aSR_c h
    cases n with
    | zero => exact ⟨trivial, h3, h4⟩
    | succ n => exact ⟨⟨h3, (ih n h4).1⟩, (ih n h4).2⟩
theorem aSR_rev {as : List aV} : ∀ {vs : List Value}, aSR as vs → aSR as.reverse vs.reverse := by
  induction as with
  | nil => intro vs h; cases aSR_n h; exact trivial
  | cons a as ih =>
    intro vs h
    obtain ⟨v, vs', rfl, h3, h4⟩ := aSR_c h
    rw [List.reverse_cons, List.reverse_cons]
    exact aSR_app (ih h4) ⟨h3, trivial⟩
theorem aSR_cat {as : List aV} : ∀ {vs : List Value}, aSR as vs → vs.map (fun v => v.category) = as.map aCat := by
  induction as with
  | nil => intro vs h; cases aSR_n h; rfl
  | cons a as ih =>
    intro vs h
    obtain ⟨v, vs', rfl, h3, h4⟩ := aSR_c h
    rw [List.map_cons, List.map_cons, ih h4, aVR_cat h3]
theorem aSR_sc {n : Nat} {as : List aV} : ∀ {vs : List Value}, aSR as vs → as.all (aSc n) = true → vs.all (mjSc n) = true := by
  induction as with
  | nil => intro vs h _; cases aSR_n h; rfl
  | cons a as ih =>
    intro vs h hs
    obtain ⟨v, vs', rfl, h3, h4⟩ := aSR_c h
    simp only [List.all_cons, Bool.and_eq_true] at hs ⊢
    exact ⟨aVR_sc h3 hs.1, ih h4 hs.2⟩
theorem aSR_lg {as : List aV} : ∀ {vs : List Value}, aSR as vs → (lg_sl vs).length = (as.map aCat).sum := by
  induction as with
  | nil => intro vs h; cases aSR_n h; rfl
  | cons a as ih =>
    intro vs h
    obtain ⟨v, vs', rfl, h3, h4⟩ := aSR_c h
    have e := ih h4
    simp only [lg_sl, List.flatMap_cons, List.length_append, List.map_cons, List.sum_cons] at e ⊢
    rw [e, ← aVR_cat h3]
    congr 1
    cases v <;> rfl
/-- locals -/
def aGt : aL → Nat → Option aV
  | [], _ => none
  | q :: r, i => match Nat.beq q.1 i with | true => some q.2 | false => aGt r i
theorem aLR_get {as : aL} : ∀ {vs : mjL} {i : Nat} {a : aV}, aLR as vs → aGt as i = some a → ∃ v, mjGet vs i = some v ∧ aVR a v := by
  induction as with
  | nil => intro vs i a _ h; cases h
  | cons q r ih =>
    intro vs i a h1 h2
    cases vs with
    | nil => exact h1.elim
    | cons w ws =>
      obtain ⟨⟨e, h3⟩, h4⟩ := h1
      simp only [aGt] at h2
      simp only [mjGet, ← e]
      split at h2
      · rename_i hb
        have hq : q.1 = i := Nat.eq_of_beq_eq_true hb
        rw [if_pos (by simp [hq])]
        cases h2
        exact ⟨_, rfl, h3⟩
      · rename_i hb
        have hq : ¬ q.1 = i := Nat.ne_of_beq_eq_false hb
        rw [if_neg (by simp [hq])]
        exact ih h4 h2
theorem aLR_filter (g : Nat → Nat → Bool) {as : aL} : ∀ {vs : mjL}, aLR as vs → aLR (as.filter (fun q => g q.1 (aCat q.2))) (vs.filter (fun q => g q.1 q.2.category)) := by
  induction as with
  | nil =>
    intro vs h
    cases vs with
    | nil => exact trivial
    | cons w ws => exact h.elim
  | cons q r ih =>
    intro vs h
    cases vs with
    | nil => exact h.elim
    | cons w ws =>
      obtain ⟨⟨e, h3⟩, h4⟩ := h
      rw [List.filter_cons, List.filter_cons, aVR_cat h3, ← e]
      split
      · exact ⟨⟨e, h3⟩, ih h4⟩
      · exact ih h4
def aFlt (g : Nat → Nat → Bool) : aL → aL
  | [] => []
  | q :: r => match g q.1 (aCat q.2) with | true => q :: aFlt g r | false => aFlt g r
theorem aFlt_eq (g : Nat → Nat → Bool) : ∀ ls : aL, aFlt g ls = ls.filter (fun q => g q.1 (aCat q.2))
  | [] => rfl
  | q :: r => by
    rw [aFlt, List.filter_cons, aFlt_eq g r]
    cases g q.1 (aCat q.2) <;> rfl
def aG1 (i x y : Nat) : Bool := match Nat.beq x i with
  | true => false
  | false => match Nat.beq (x + 1) i with
    | true => match Nat.beq y 2 with | true => false | false => true
    | false => true
def aG2 (i x y : Nat) : Bool := match Nat.beq x (i + 1) with
  | true => false
  | false => aG1 i x y
theorem beqN (x i : Nat) : (x == i) = Nat.beq x i := by
  cases h : Nat.beq x i with
  | true => rw [Nat.eq_of_beq_eq_true h]; simp
  | false => have := Nat.ne_of_beq_eq_false h; simp [this]
theorem aG1_eq (i : Nat) : aG1 i = fun x y => !(x == i) && !(x + 1 == i && y == 2) := by
  funext x y
  rw [beqN, beqN, beqN]
  unfold aG1
  cases Nat.beq x i <;> cases Nat.beq (x + 1) i <;> cases Nat.beq y 2 <;> rfl
theorem aG2_eq (i : Nat) : aG2 i = fun x y => !(x == i) && (!(x == i + 1) && !(x + 1 == i && y == 2)) := by
  funext x y
  unfold aG2
  rw [aG1_eq]
  dsimp only
  rw [beqN, beqN, beqN, beqN]
  cases Nat.beq x i <;> cases Nat.beq (x + 1) i <;> cases Nat.beq y 2 <;> cases Nat.beq x (i + 1) <;> rfl
def aStO (i : Nat) (v : aV) (ls : aL) : aL := (i, v) :: aFlt (aG1 i) ls
def aStT (i : Nat) (v : aV) (ls : aL) : aL := (i, v) :: aFlt (aG2 i) ls
def aDel (j : Nat) (ls : aL) : aL := ls.filter (fun q => !(q.1 == j) && !(q.1 + 1 == j && aCat q.2 == 2))
theorem aLR_st {i : Nat} {a : aV} {v : Value} {as : aL} {vs : mjL} (h : aLR as vs) (ha : aVR a v) : aLR (aStO i a as) (mjSt i v vs) := by
  refine ⟨⟨rfl, ha⟩, ?_⟩
  rw [aFlt_eq, aG1_eq]
  exact aLR_filter (fun x y => !(x == i) && !(x + 1 == i && y == 2)) h
theorem aLR_st2 {i : Nat} {a : aV} {v : Value} {as : aL} {vs : mjL} (h : aLR as vs) (ha : aVR a v) : aLR (aStT i a as) (mjSt2 i v vs) := by
  refine ⟨⟨rfl, ha⟩, ?_⟩
  rw [aFlt_eq, aG2_eq]
  exact aLR_filter (fun x y => !(x == i) && (!(x == i + 1) && !(x + 1 == i && y == 2))) h
theorem aLR_del {j : Nat} {as : aL} {vs : mjL} (h : aLR as vs) : aLR (aDel j as) (mjDel j vs) := aLR_filter (fun x y => !(x == j) && !(x + 1 == j && y == 2)) h
theorem aLR_sc {n : Nat} {as : aL} : ∀ {vs : mjL}, aLR as vs → as.all (fun q => aSc n q.2) = true → vs.all (fun q => mjSc n q.2) = true := by
  induction as with
  | nil =>
    intro vs h _
    cases vs with
    | nil => rfl
    | cons w ws => exact h.elim
  | cons q r ih =>
    intro vs h hs
    cases vs with
    | nil => exact h.elim
    | cons w ws =>
      simp only [List.all_cons, Bool.and_eq_true] at hs ⊢
      exact ⟨aVR_sc h.1.2 hs.1, ih h.2 hs.2⟩
def aArgs : Nat → List aV → aL
  | _, [] => []
  | i, v :: vs => (i, v) :: aArgs (if aCat v = 2 then i + 2 else i + 1) vs
theorem aSR_args {as : List aV} : ∀ {vs : List Value} (i : Nat), aSR as vs → aLR (aArgs i as) (lv_args i vs) := by
  induction as with
  | nil => intro vs i h; cases aSR_n h; exact trivial
  | cons a as ih =>
    intro vs i h
    obtain ⟨v, vs', rfl, h3, h4⟩ := aSR_c h
    refine ⟨⟨rfl, h3⟩, ?_⟩
    show aLR (aArgs (if aCat a = 2 then i + 2 else i + 1) as) (lv_args (if v.category = 2 then i + 2 else i + 1) vs')
    rw [aVR_cat h3]
    exact ih _ h4
def aScA (n m : Nat) (ls : aL) (st : List aV) : Bool := decide (n + m < mjS0) && ls.all (fun q => aSc n q.2) && st.all (aSc n)
theorem aScA_ok {n m : Nat} {ls : aL} {st : List aV} {cl : mjL} {cs : List Value} (h1 : aLR ls cl) (h2 : aSR st cs) (h : aScA n m ls st = true) : mjSca n m cl cs = true := by
  simp only [aScA, mjSca, Bool.and_eq_true] at h ⊢
  exact ⟨⟨h.1.1, aLR_sc h1 h.1.2⟩, aSR_sc h2 h.2⟩
end AJVAL

/-! SX: values by symbols; what is known of the symbols -/
noncomputable section SXVAL
def iLe (a b : Int) : Bool := @Int.rec (fun _ => Bool) (fun a => @Int.rec (fun _ => Bool) (fun b => Nat.ble a b) (fun _ => false) b) (fun a => @Int.rec (fun _ => Bool) (fun _ => true) (fun b => Nat.ble b a) b) a
theorem iLe_iff {a b : Int} : iLe a b = true ↔ a ≤ b := by
  cases a with
  | ofNat a => cases b with
    | ofNat b => show Nat.ble a b = true ↔ _; rw [Nat.ble_eq]; exact Int.ofNat_le.symm
    | negSucc b => exact ⟨fun h => (by cases h), fun h => (by have h : (a : Int) ≤ Int.negSucc b := h; omega)⟩
  | negSucc a => cases b with
    | ofNat b => exact ⟨fun _ => (by show Int.negSucc a ≤ (b : Int); omega), fun _ => rfl⟩
    | negSucc b => show Nat.ble b a = true ↔ _; rw [Nat.ble_eq]; omega
theorem iLe_ok {a b : Int} (h : iLe a b = true) : a ≤ b := iLe_iff.mp h
theorem iLe_no {a b : Int} (h : iLe a b = false) : b < a := by
  have : ¬ a ≤ b := fun q => by rw [iLe_iff.mpr q] at h; cases h
  omega
def iEq (a b : Int) : Bool := @Int.rec (fun _ => Bool) (fun a => @Int.rec (fun _ => Bool) (fun b => Nat.beq a b) (fun _ => false) b) (fun a => @Int.rec (fun _ => Bool) (fun _ => false) (fun b => Nat.beq a b) b) a
theorem iEq_ok {a b : Int} (h : iEq a b = true) : a = b := by
  cases a with
  | ofNat a => cases b with
    | ofNat b => rw [Nat.eq_of_beq_eq_true (show Nat.beq a b = true from h)]
    | negSucc b => cases h
  | negSucc a => cases b with
    | ofNat b => cases h
    | negSucc b => rw [Nat.eq_of_beq_eq_true (show Nat.beq a b = true from h)]
theorem iEq_self (a : Int) : iEq a a = true := by
  cases a <;> exact Nat.beq_refl _
abbrev sxN : Type := Nat × Int
abbrev sxV : Type := Nat ⊕ (Bool × sxN)
abbrev sxL : Type := List (Nat × sxV)
abbrev sxD : Type := List (Nat × Int × Int)
abbrev sxE : Type := List (Nat × Nat × Int)
abbrev sxA : Type := List (Nat × Nat × Nat)
/-- facts: an operation, its two numbers, what it gives -/
abbrev sxF : Type := List (Nat × sxN × sxN × sxN)
/-- what is known: the next symbol; bounds; differences; sums; facts -/
abbrev sxB : Type := Nat × sxD × sxE × sxA × sxF
def sxNR (σ : List Int) (n : sxN) (z : Int) : Prop := ∃ y, σ[n.1]? = some y ∧ z = y + n.2
def sxVR (σ : List Int) : sxV → Value → Prop
  | .inl n, v => v = .ref n
  | .inr (false, n), v => ∃ x : Int32, v = .int x ∧ sxNR σ n x.toInt
  | .inr (true, n), v => ∃ x : Int64, v = .long x ∧ sxNR σ n x.toInt
def sxIn (σ : List Int) (q : Nat × Int × Int) : Prop := ∃ z, σ[q.1]? = some z ∧ q.2.1 ≤ z ∧ z ≤ q.2.2
def sxDf (σ : List Int) (q : Nat × Nat × Int) : Prop := ∃ a b, σ[q.1]? = some a ∧ σ[q.2.1]? = some b ∧ a - b ≤ q.2.2
def sxSm (σ : List Int) (q : Nat × Nat × Nat) : Prop := ∃ t a b, σ[q.1]? = some t ∧ σ[q.2.1]? = some a ∧ σ[q.2.2]? = some b ∧ t = a + b
def sxFt (T : Nat) (σ : List Int) (q : Nat × sxN × sxN × sxN) : Prop := ∃ a b z, sxNR σ q.2.1 a ∧ sxNR σ q.2.2.1 b ∧ sxNR σ q.2.2.2 z ∧ sxSem T q.1 a b = z
def sxBR (T : Nat) (σ : List Int) (B : sxB) : Prop := (σ.length = B.1 ∧ σ[0]? = some 0) ∧ (∀ q ∈ B.2.1, sxIn σ q) ∧ (∀ q ∈ B.2.2.1, sxDf σ q) ∧ (∀ q ∈ B.2.2.2.1, sxSm σ q) ∧ ∀ q ∈ B.2.2.2.2, sxFt T σ q
/-- more symbols -/
def sxUp (σ σ' : List Int) : Prop := ∀ (s : Nat) (z : Int), σ[s]? = some z → σ'[s]? = some z
theorem sxUp.rf {σ : List Int} : sxUp σ σ := fun _ _ h => h
theorem sxUp.tr {a b c : List Int} (h1 : sxUp a b) (h2 : sxUp b c) : sxUp a c := fun s z h => h2 s z (h1 s z h)
theorem sxUp.app (σ w : List Int) : sxUp σ (σ ++ w) := fun s z h => by
  rw [List.getElem?_append_left (List.getElem?_eq_some_iff.mp h).1]
  exact h
theorem sxNR.up {σ σ' : List Int} {n : sxN} {z : Int} (h : sxNR σ n z) (hu : sxUp σ σ') : sxNR σ' n z := by
  obtain ⟨y, h1, h2⟩ := h
  exact ⟨y, hu _ _ h1, h2⟩
theorem sxVR.up {σ σ' : List Int} {a : sxV} {v : Value} (h : sxVR σ a v) (hu : sxUp σ σ') : sxVR σ' a v := by
  match a, h with
  | .inl n, h => exact h
  | .inr (false, n), h => obtain ⟨x, h1, h2⟩ := h; exact ⟨x, h1, h2.up hu⟩
  | .inr (true, n), h => obtain ⟨x, h1, h2⟩ := h; exact ⟨x, h1, h2.up hu⟩
theorem sxIn.up {σ σ' : List Int} {q : Nat × Int × Int} (h : sxIn σ q) (hu : sxUp σ σ') : sxIn σ' q := by
  obtain ⟨z, h1, h2⟩ := h
  exact ⟨z, hu _ _ h1, h2⟩
theorem sxDf.up {σ σ' : List Int} {q : Nat × Nat × Int} (h : sxDf σ q) (hu : sxUp σ σ') : sxDf σ' q := by
  obtain ⟨a, b, h1, h2, h3⟩ := h
  exact ⟨a, b, hu _ _ h1, hu _ _ h2, h3⟩
theorem sxSm.up {σ σ' : List Int} {q : Nat × Nat × Nat} (h : sxSm σ q) (hu : sxUp σ σ') : sxSm σ' q := by
  obtain ⟨t, a, b, h1, h2, h3, h4⟩ := h
  exact ⟨t, a, b, hu _ _ h1, hu _ _ h2, hu _ _ h3, h4⟩
theorem sxFt.up {T : Nat} {σ σ' : List Int} {q : Nat × sxN × sxN × sxN} (h : sxFt T σ q) (hu : sxUp σ σ') : sxFt T σ' q := by
  obtain ⟨a, b, z, h1, h2, h3, h4⟩ := h
  exact ⟨a, b, z, h1.up hu, h2.up hu, h3.up hu, h4⟩
theorem sxNR.un {σ : List Int} {n : sxN} {a b : Int} (h1 : sxNR σ n a) (h2 : sxNR σ n b) : a = b := by
  obtain ⟨y, e1, e2⟩ := h1
  obtain ⟨z, e3, e4⟩ := h2
  cases Option.some.inj (e1.symm.trans e3)
  omega
/-- numbers laid out -/
def iFc {α : Type} (z : Int) (f : Int → α) : α := @Int.rec (fun _ => α) (fun n => bFc n (fun n => f (.ofNat n))) (fun n => bFc n (fun n => f (.negSucc n))) z
theorem iFc_eq {α : Type} (z : Int) (f : Int → α) : iFc z f = f z := by
  cases z with
  | ofNat n => exact bFc_eq n (fun n => f (.ofNat n))
  | negSucc n => exact bFc_eq n (fun n => f (.negSucc n))
def nFc {α : Type} (x : Nat × Int) (f : Nat × Int → α) : α := @Prod.rec Nat Int (fun _ => α) (fun s c => bFc s fun s => iFc c fun c => f (s, c)) x
theorem nFc_eq {α : Type} (x : Nat × Int) (f : Nat × Int → α) : nFc x f = f x := by
  obtain ⟨s, c⟩ := x
  show (bFc s fun s => iFc c fun c => f (s, c)) = f (s, c)
  rw [bFc_eq, iFc_eq]
/-- a list by its head -/
def lFc {α β : Type} (l : List α) (f : List α → β) : β := @List.rec α (fun _ => β) (f []) (fun q r _ => f (q :: r)) l
theorem lFc_eq {α β : Type} (l : List α) (f : List α → β) : lFc l f = f l := by cases l <;> rfl
def lMm {α : Type} (l : List α) : List α := @List.rec α (fun _ => List α) [] (fun a l _ => a :: l) l
theorem lMm_eq {α : Type} (l : List α) : lMm l = l := by cases l <;> rfl
def oMm {α : Type} (o : Option α) : Option α := @Option.rec α (fun _ => Option α) none (fun a => some a) o
theorem oMm_eq {α : Type} (o : Option α) : oMm o = o := by cases o <;> rfl
/-- bounds of a symbol -/
def sxIv (D : sxD) (s : Nat) : Option (Int × Int) := @List.rec (Nat × Int × Int) (fun _ => Option (Int × Int)) none (fun q _ ih => @Bool.rec (fun _ => Option (Int × Int)) (@Option.rec (Int × Int) (fun _ => Option (Int × Int)) none (fun a_ => some a_) ih) (some q.2) (Nat.beq q.1 s)) D
theorem sxIv_cons (q : Nat × Int × Int) (r : sxD) (s : Nat) : sxIv (q :: r) s = match Nat.beq q.1 s with | true => some q.2 | false => sxIv r s := by
  show @Bool.rec (fun _ => Option (Int × Int)) (oMm (sxIv r s)) (some q.2) (Nat.beq q.1 s) = _
  rw [oMm_eq]
  cases Nat.beq q.1 s <;> rfl
theorem sxIv_mem : ∀ {D : sxD} {s : Nat} {p : Int × Int}, sxIv D s = some p → (s, p) ∈ D
  | [], _, _, h => by cases h
  | q :: r, s, p, h => by
    rw [sxIv_cons] at h
    split at h
    · rename_i hb
      have hq := Nat.eq_of_beq_eq_true hb
      cases h
      subst hq
      exact List.mem_cons_self
    · exact List.mem_cons_of_mem _ (sxIv_mem h)
def sxRgS (B : sxB) (s : Nat) : Option (Int × Int) := @Bool.rec (fun _ => Option (Int × Int)) (bFc s fun s => sxIv B.2.1 s) (some (0, 0)) (Nat.beq s 0)
theorem sxRgS_ok {T : Nat} {σ : List Int} {B : sxB} {s : Nat} {p : Int × Int} (hB : sxBR T σ B) (h : sxRgS B s = some p) : ∃ z, σ[s]? = some z ∧ p.1 ≤ z ∧ z ≤ p.2 := by
  unfold sxRgS at h
  cases hs : Nat.beq s 0 with
  | true =>
    rw [hs] at h
    cases h
    rw [Nat.eq_of_beq_eq_true hs]
    exact ⟨0, hB.1.2, Int.le_refl _, Int.le_refl _⟩
  | false =>
    rw [hs] at h
    have h : (bFc s fun s => sxIv B.2.1 s) = some p := h
    rw [bFc_eq] at h
    exact hB.2.1 _ (sxIv_mem h)
def sxRg (B : sxB) (n : sxN) : Option (Int × Int) := match sxRgS B n.1 with
  | some (lo, hi) => some (lo + n.2, hi + n.2)
  | none => none
theorem sxRg_ok {T : Nat} {σ : List Int} {B : sxB} {n : sxN} {p : Int × Int} {z : Int} (hB : sxBR T σ B) (h : sxRg B n = some p) (hz : sxNR σ n z) : p.1 ≤ z ∧ z ≤ p.2 := by
  unfold sxRg at h
  split at h
  · rename_i lo hi e
    cases h
    obtain ⟨y, h1, h2, h3⟩ := sxRgS_ok hB e
    obtain ⟨w, h4, h5⟩ := hz
    cases Option.some.inj (h1.symm.trans h4)
    dsimp only at h2 h3 ⊢
    omega
  · cases h
theorem sxRg_ex {T : Nat} {σ : List Int} {B : sxB} {n : sxN} {p : Int × Int} (hB : sxBR T σ B) (h : sxRg B n = some p) : ∃ z, sxNR σ n z := by
  unfold sxRg at h
  split at h
  · rename_i lo hi e
    obtain ⟨y, h1, h2, h3⟩ := sxRgS_ok hB e
    exact ⟨_, y, h1, rfl⟩
  · cases h
/-- is a difference known to be bounded? -/
def sxFE (E : sxE) (s t : Nat) (c : Int) : Bool := @List.rec (Nat × Nat × Int) (fun _ => Bool) false (fun q _ ih => @Bool.rec (fun _ => Bool) ih (@Bool.rec (fun _ => Bool) ih (@Bool.rec (fun _ => Bool) ih true (iLe q.2.2 c)) (Nat.beq q.2.1 t)) (Nat.beq q.1 s)) E
theorem sxFE_cons (q : Nat × Nat × Int) (r : sxE) (s t : Nat) (c : Int) : sxFE (q :: r) s t c = match Nat.beq q.1 s with
    | false => sxFE r s t c
    | true => match Nat.beq q.2.1 t with
      | false => sxFE r s t c
      | true => match iLe q.2.2 c with
        | true => true
        | false => sxFE r s t c := by
  show @Bool.rec (fun _ => Bool) (sxFE r s t c) (@Bool.rec (fun _ => Bool) (sxFE r s t c) (@Bool.rec (fun _ => Bool) (sxFE r s t c) true (iLe q.2.2 c)) (Nat.beq q.2.1 t)) (Nat.beq q.1 s) = _
  cases Nat.beq q.1 s <;> cases Nat.beq q.2.1 t <;> cases iLe q.2.2 c <;> rfl
theorem sxFE_ok {σ : List Int} : ∀ {E : sxE} {s t : Nat} {c : Int}, sxFE E s t c = true → (∀ q ∈ E, sxDf σ q) → ∃ a b, σ[s]? = some a ∧ σ[t]? = some b ∧ a - b ≤ c
  | [], _, _, _, h, _ => by cases h
  | q :: r, s, t, c, h, hE => by
    have ih := fun h => sxFE_ok (σ := σ) (E := r) (s := s) (t := t) (c := c) h (fun q hq => hE q (List.mem_cons_of_mem _ hq))
    rw [sxFE_cons] at h
    split at h
    · exact ih h
    · rename_i h1
      split at h
      · exact ih h
      · rename_i h2
        split at h
        · rename_i h3
          have h1 := Nat.eq_of_beq_eq_true h1
          have h2 := Nat.eq_of_beq_eq_true h2
          obtain ⟨a, b, e1, e2, e3⟩ := hE q List.mem_cons_self
          rw [h1] at e1
          rw [h2] at e2
          exact ⟨a, b, e1, e2, Int.le_trans e3 (iLe_ok h3)⟩
        · exact ih h
/-- the differences from a symbol, to a symbol: looked up once -/
def sxRow (E : sxE) (s : Nat) : sxE := @List.rec (Nat × Nat × Int) (fun _ => sxE) [] (fun q _ ih => @Bool.rec (fun _ => sxE) (@List.rec (Nat × Nat × Int) (fun _ => sxE) [] (fun a_ l_ _ => a_ :: l_) ih) (q :: ih) (Nat.beq q.1 s)) E
def sxCol (E : sxE) (s : Nat) : sxE := @List.rec (Nat × Nat × Int) (fun _ => sxE) [] (fun q _ ih => @Bool.rec (fun _ => sxE) (@List.rec (Nat × Nat × Int) (fun _ => sxE) [] (fun a_ l_ _ => a_ :: l_) ih) (q :: ih) (Nat.beq q.2.1 s)) E
theorem sxRow_sub : ∀ {E : sxE} {s : Nat} {q : Nat × Nat × Int}, q ∈ sxRow E s → q ∈ E
  | [], _, _, h => absurd h List.not_mem_nil
  | q0 :: r, s, q, h => by
    have h : q ∈ @Bool.rec (fun _ => sxE) (lMm (sxRow r s)) (q0 :: sxRow r s) (Nat.beq q0.1 s) := h
    rw [lMm_eq] at h
    cases hb : Nat.beq q0.1 s with
    | true =>
      rw [hb] at h
      rcases List.mem_cons.mp (show q ∈ q0 :: sxRow r s from h) with h | h
      · exact h ▸ List.mem_cons_self
      · exact List.mem_cons_of_mem _ (sxRow_sub h)
    | false =>
      rw [hb] at h
      exact List.mem_cons_of_mem _ (sxRow_sub (show q ∈ sxRow r s from h))
theorem sxCol_sub : ∀ {E : sxE} {s : Nat} {q : Nat × Nat × Int}, q ∈ sxCol E s → q ∈ E
  | [], _, _, h => absurd h List.not_mem_nil
  | q0 :: r, s, q, h => by
    have h : q ∈ @Bool.rec (fun _ => sxE) (lMm (sxCol r s)) (q0 :: sxCol r s) (Nat.beq q0.2.1 s) := h
    rw [lMm_eq] at h
    cases hb : Nat.beq q0.2.1 s with
    | true =>
      rw [hb] at h
      rcases List.mem_cons.mp (show q ∈ q0 :: sxCol r s from h) with h | h
      · exact h ▸ List.mem_cons_self
      · exact List.mem_cons_of_mem _ (sxCol_sub h)
    | false =>
      rw [hb] at h
      exact List.mem_cons_of_mem _ (sxCol_sub (show q ∈ sxCol r s from h))
def sxFEf (E : sxE) (s t : Nat) (c : Int) : Bool := bFc s fun s => bFc t fun t => iFc c fun c => sxFE (sxRow E s) s t c
theorem sxFEf_ok {σ : List Int} {E : sxE} {s t : Nat} {c : Int} (h : sxFEf E s t c = true) (hE : ∀ q ∈ E, sxDf σ q) : ∃ a b, σ[s]? = some a ∧ σ[t]? = some b ∧ a - b ≤ c := by
  unfold sxFEf at h
  rw [bFc_eq, bFc_eq, iFc_eq] at h
  exact sxFE_ok h (fun q hq => hE q (sxRow_sub hq))
theorem sxRow_fst : ∀ {E : sxE} {s : Nat} {q : Nat × Nat × Int}, q ∈ sxRow E s → q.1 = s
  | [], _, _, h => absurd h List.not_mem_nil
  | q0 :: r, s, q, h => by
    have h : q ∈ @Bool.rec (fun _ => sxE) (lMm (sxRow r s)) (q0 :: sxRow r s) (Nat.beq q0.1 s) := h
    rw [lMm_eq] at h
    cases hb : Nat.beq q0.1 s with
    | true =>
      rw [hb] at h
      rcases List.mem_cons.mp (show q ∈ q0 :: sxRow r s from h) with h | h
      · rw [h]
        exact Nat.eq_of_beq_eq_true hb
      · exact sxRow_fst h
    | false =>
      rw [hb] at h
      exact sxRow_fst (show q ∈ sxRow r s from h)
/-- a + b ≤ c + d + e, by whole numbers -/
def iAc {α : Type} (z : Int) (P M : Nat) (k : Nat → Nat → α) : α := @Int.rec (fun _ => α) (fun n => k (Nat.add P n) M) (fun n => k P (Nat.add M (Nat.succ n))) z
theorem iAc_eq {α : Type} (z : Int) (P M : Nat) (k : Nat → Nat → α) : ∃ p m : Nat, iAc z P M k = k p m ∧ (p : Int) - m = P - M + z := by
  cases z with
  | ofNat n => exact ⟨P + n, M, rfl, by simp only [Int.ofNat_eq_natCast]; omega⟩
  | negSucc n => exact ⟨P, M + (n + 1), rfl, by simp only [Int.negSucc_eq]; omega⟩
def iLe5 (a b c d e : Int) : Bool := iAc a 0 0 fun p m => iAc b p m fun p m => iAc c m p fun p m => iAc d p m fun p m => iAc e p m fun p m => Nat.ble m p
theorem iLe5_ok {a b c d e : Int} (h : iLe5 a b c d e = true) : a + b ≤ c + d + e := by
  unfold iLe5 at h
  obtain ⟨p1, m1, e1, g1⟩ := iAc_eq a 0 0 (fun p m => iAc b p m fun p m => iAc c m p fun p m => iAc d p m fun p m => iAc e p m fun p m => Nat.ble m p)
  rw [e1] at h
  obtain ⟨p2, m2, e2, g2⟩ := iAc_eq b p1 m1 (fun p m => iAc c m p fun p m => iAc d p m fun p m => iAc e p m fun p m => Nat.ble m p)
  rw [e2] at h
  obtain ⟨p3, m3, e3, g3⟩ := iAc_eq c m2 p2 (fun p m => iAc d p m fun p m => iAc e p m fun p m => Nat.ble m p)
  rw [e3] at h
  obtain ⟨p4, m4, e4, g4⟩ := iAc_eq d p3 m3 (fun p m => iAc e p m fun p m => Nat.ble m p)
  rw [e4] at h
  obtain ⟨p5, m5, e5, g5⟩ := iAc_eq e p4 m4 (fun p m => Nat.ble m p)
  rw [e5] at h
  have h := Nat.le_of_ble_eq_true h
  omega
def sxLeI (B : sxB) (x y : sxN) (c : Int) : Bool := @Option.rec (Int × Int) (fun _ => Bool) false (fun p => @Option.rec (Int × Int) (fun _ => Bool) false (fun q => iLe5 p.2 x.2 q.1 y.2 c) (sxRgS B y.1)) (sxRgS B x.1)
theorem sxLeI_eq (B : sxB) (x y : sxN) (c : Int) : sxLeI B x y c = match sxRgS B x.1 with
  | some p => (match sxRgS B y.1 with | some q => iLe5 p.2 x.2 q.1 y.2 c | none => false)
  | none => false := by
  unfold sxLeI
  cases sxRgS B x.1 with
  | none => rfl
  | some p => cases sxRgS B y.1 <;> rfl
/-- in a symbol's row -/
def sxFE5 (R : sxE) (t : Nat) (x2 y2 c : Int) : Bool := @List.rec (Nat × Nat × Int) (fun _ => Bool) false (fun q _ ih => @Bool.rec (fun _ => Bool) ih (@Bool.rec (fun _ => Bool) ih true (iLe5 q.2.2 x2 c y2 0)) (Nat.beq q.2.1 t)) R
theorem sxFE5_ok {σ : List Int} {s t : Nat} {x2 y2 c : Int} : ∀ {R : sxE}, sxFE5 R t x2 y2 c = true → (∀ q ∈ R, q.1 = s ∧ sxDf σ q) → ∃ a b, σ[s]? = some a ∧ σ[t]? = some b ∧ a - b ≤ c - x2 + y2
  | [], h, _ => by cases h
  | q :: r, h, hR => by
    have ih := fun h => sxFE5_ok (σ := σ) (s := s) (t := t) (x2 := x2) (y2 := y2) (c := c) (R := r) h (fun q hq => hR q (List.mem_cons_of_mem _ hq))
    have h : @Bool.rec (fun _ => Bool) (sxFE5 r t x2 y2 c) (@Bool.rec (fun _ => Bool) (sxFE5 r t x2 y2 c) true (iLe5 q.2.2 x2 c y2 0)) (Nat.beq q.2.1 t) = true := h
    cases h1 : Nat.beq q.2.1 t with
    | false =>
      rw [h1] at h
      exact ih h
    | true =>
      rw [h1] at h
      have h : @Bool.rec (fun _ => Bool) (sxFE5 r t x2 y2 c) true (iLe5 q.2.2 x2 c y2 0) = true := h
      cases h2 : iLe5 q.2.2 x2 c y2 0 with
      | false =>
        rw [h2] at h
        exact ih h
      | true =>
        obtain ⟨e0, a, b, e1, e2, e3⟩ := hR q List.mem_cons_self
        have h2 := iLe5_ok h2
        rw [e0] at e1
        rw [Nat.eq_of_beq_eq_true h1] at e2
        exact ⟨a, b, e1, e2, by omega⟩
def sxLeE (B : sxB) (x y : sxN) (c : Int) : Bool := bFc x.1 fun s => bFc y.1 fun t => sxFE5 (sxRow B.2.2.1 s) t x.2 y.2 c
def sxLe (B : sxB) (x y : sxN) (c : Int) : Bool := @Bool.rec (fun _ => Bool) (@Bool.rec (fun _ => Bool) (sxLeE B x y c) (iLe (x.2 - y.2) c) (Nat.beq x.1 y.1)) true (sxLeI B x y c)
theorem sxLe_ok {T : Nat} {σ : List Int} {B : sxB} {x y : sxN} {c X Y : Int} (hB : sxBR T σ B) (h : sxLe B x y c = true) (hx : sxNR σ x X) (hy : sxNR σ y Y) : X - Y ≤ c := by
  obtain ⟨a, h1, h2⟩ := hx
  obtain ⟨b, h3, h4⟩ := hy
  unfold sxLe at h
  cases hi : sxLeI B x y c with
  | true =>
    rw [sxLeI_eq] at hi
    split at hi
    · rename_i p hp
      split at hi
      · rename_i q hq
        obtain ⟨u, e1, e2, e3⟩ := sxRgS_ok hB hp
        obtain ⟨v, e4, e5, e6⟩ := sxRgS_ok hB hq
        cases Option.some.inj (h1.symm.trans e1)
        cases Option.some.inj (h3.symm.trans e4)
        have := iLe5_ok hi
        omega
      · cases hi
    · cases hi
  | false =>
    rw [hi] at h
    have h : @Bool.rec (fun _ => Bool) (sxLeE B x y c) (iLe (x.2 - y.2) c) (Nat.beq x.1 y.1) = true := h
    cases hb : Nat.beq x.1 y.1 with
    | true =>
      rw [hb] at h
      have h : iLe (x.2 - y.2) c = true := h
      have hb := Nat.eq_of_beq_eq_true hb
      rw [hb] at h1
      cases Option.some.inj (h1.symm.trans h3)
      have := iLe_ok h
      omega
    | false =>
      rw [hb] at h
      have h : sxLeE B x y c = true := h
      unfold sxLeE at h
      rw [bFc_eq, bFc_eq] at h
      obtain ⟨u, v, e1, e2, e3⟩ := sxFE5_ok h (fun q hq => ⟨sxRow_fst hq, hB.2.2.1 q (sxRow_sub hq)⟩)
      cases Option.some.inj (h1.symm.trans e1)
      cases Option.some.inj (h3.symm.trans e2)
      omega
/-- a bound more -/
def sxSet (s : Nat) (v : Int × Int) (l_ : sxD) : sxD := @List.rec _ (fun _ => sxD) ([]) (fun q r ih => match Nat.beq q.1 s with | true => (s, v) :: r | false => q :: ih) l_
theorem sxSet_c {s : Nat} {v : Int × Int} {q : Nat × Int × Int} {r : sxD} : sxSet s v (q :: r) = (match Nat.beq q.1 s with | true => (s, v) :: r | false => q :: sxSet s v r) := rfl
theorem sxSet_mem {s : Nat} {v : Int × Int} : ∀ {D : sxD} {q : Nat × Int × Int}, q ∈ sxSet s v D → q = (s, v) ∨ q ∈ D
  | [], _, h => by cases h
  | q0 :: r, q, h => by
    rw [sxSet_c] at h
    split at h
    · rcases List.mem_cons.mp h with h | h
      · exact .inl h
      · exact .inr (List.mem_cons_of_mem _ h)
    · rcases List.mem_cons.mp h with h | h
      · exact .inr (h ▸ List.mem_cons_self)
      · rcases sxSet_mem h with h | h
        · exact .inl h
        · exact .inr (List.mem_cons_of_mem _ h)
/-- what is known, laid out at once -/
def sxBk {α : Type} (B : sxB) (f : sxB → α) : α := match B with
  | (N, D, E, A, F) => f (N, D, E, A, F)
theorem sxBk_eq {α : Type} (B : sxB) (f : sxB → α) : sxBk B f = f B := rfl
def sxBn {α : Type} (B : sxB) (f : sxB → α) : α := match B with
  | (N, D, E, A, F) => bFc N fun N => lFc D fun D => lFc E fun E => lFc A fun A => lFc F fun F => f (N, D, E, A, F)
theorem sxBn_eq {α : Type} (B : sxB) (f : sxB → α) : sxBn B f = f B := by
  obtain ⟨N, D, E, A, F⟩ := B
  show (bFc N fun N => lFc D fun D => lFc E fun E => lFc A fun A => lFc F fun F => f (N, D, E, A, F)) = f (N, D, E, A, F)
  rw [bFc_eq, lFc_eq, lFc_eq, lFc_eq, lFc_eq]
def sxHi0 (B : sxB) (s : Nat) (h : Int) : sxB := match s with
  | 0 => B
  | _ + 1 => match sxIv B.2.1 s with
    | some (lo, hi) => (match iLe hi h with | true => B | false => iFc h fun h => (B.1, sxSet s (lo, h) B.2.1, B.2.2))
    | none => B
def sxLo0 (B : sxB) (s : Nat) (l : Int) : sxB := match s with
  | 0 => B
  | _ + 1 => match sxIv B.2.1 s with
    | some (lo, hi) => (match iLe l lo with | true => B | false => iFc l fun l => (B.1, sxSet s (l, hi) B.2.1, B.2.2))
    | none => B
theorem sxHi0_ok {T : Nat} {σ : List Int} {B : sxB} {s : Nat} {h : Int} (hB : sxBR T σ B) (hz : ∀ z, σ[s]? = some z → z ≤ h) : sxBR T σ (sxHi0 B s h) := by
  unfold sxHi0
  split
  · exact hB
  · split
    · rename_i lo hi e
      split
      · exact hB
      · rw [iFc_eq]
        refine ⟨hB.1, fun q hq => ?_, hB.2.2⟩
        rcases sxSet_mem hq with rfl | hq
        · obtain ⟨z, h1, h2, h3⟩ := hB.2.1 _ (sxIv_mem e)
          exact ⟨z, h1, h2, hz z h1⟩
        · exact hB.2.1 q hq
    · exact hB
theorem sxLo0_ok {T : Nat} {σ : List Int} {B : sxB} {s : Nat} {l : Int} (hB : sxBR T σ B) (hz : ∀ z, σ[s]? = some z → l ≤ z) : sxBR T σ (sxLo0 B s l) := by
  unfold sxLo0
  split
  · exact hB
  · split
    · rename_i lo hi e
      split
      · exact hB
      · rw [iFc_eq]
        refine ⟨hB.1, fun q hq => ?_, hB.2.2⟩
        rcases sxSet_mem hq with rfl | hq
        · obtain ⟨z, h1, h2, h3⟩ := hB.2.1 _ (sxIv_mem e)
          exact ⟨z, h1, hz z h1, h3⟩
        · exact hB.2.1 q hq
    · exact hB
theorem sxHi0_A (B : sxB) (s : Nat) (h : Int) : (sxHi0 B s h).2.2.2 = B.2.2.2 := by
  unfold sxHi0
  split
  · rfl
  · split
    · split
      · rfl
      · rw [iFc_eq]
    · rfl
theorem sxLo0_A (B : sxB) (s : Nat) (h : Int) : (sxLo0 B s h).2.2.2 = B.2.2.2 := by
  unfold sxLo0
  split
  · rfl
  · split
    · split
      · rfl
      · rw [iFc_eq]
    · rfl
/-- a bound of a sum bounds its parts -/
def sxHiP (s : Nat) (h : Int) (l_ : sxA) : sxB → sxB := @List.rec _ (fun _ => sxB → sxB) (fun B => B) (fun q _ ih B => match Nat.beq q.1 s with
    | false => ih B
    | true => match sxRgS B q.2.1 with
      | some pa => (match sxRgS B q.2.2 with
        | some pb => ih (sxHi0 (sxHi0 B q.2.1 (h - pb.1)) q.2.2 (h - pa.1))
        | none => ih B)
      | none => ih B) l_
theorem sxHiP_c {s : Nat} {h : Int} {q : Nat × Nat × Nat} {r : sxA} {B : sxB} : sxHiP s h (q :: r) B = (match Nat.beq q.1 s with
    | false => sxHiP s h r B
    | true => match sxRgS B q.2.1 with
      | some pa => (match sxRgS B q.2.2 with
        | some pb => sxHiP s h r (sxHi0 (sxHi0 B q.2.1 (h - pb.1)) q.2.2 (h - pa.1))
        | none => sxHiP s h r B)
      | none => sxHiP s h r B) := rfl
def sxLoP (s : Nat) (l : Int) (l_ : sxA) : sxB → sxB := @List.rec _ (fun _ => sxB → sxB) (fun B => B) (fun q _ ih B => match Nat.beq q.1 s with
    | false => ih B
    | true => match sxRgS B q.2.1 with
      | some pa => (match sxRgS B q.2.2 with
        | some pb => ih (sxLo0 (sxLo0 B q.2.1 (l - pb.2)) q.2.2 (l - pa.2))
        | none => ih B)
      | none => ih B) l_
theorem sxLoP_c {s : Nat} {l : Int} {q : Nat × Nat × Nat} {r : sxA} {B : sxB} : sxLoP s l (q :: r) B = (match Nat.beq q.1 s with
    | false => sxLoP s l r B
    | true => match sxRgS B q.2.1 with
      | some pa => (match sxRgS B q.2.2 with
        | some pb => sxLoP s l r (sxLo0 (sxLo0 B q.2.1 (l - pb.2)) q.2.2 (l - pa.2))
        | none => sxLoP s l r B)
      | none => sxLoP s l r B) := rfl
theorem sxHiP_ok {T : Nat} {σ : List Int} {s : Nat} {h : Int} (hz : ∀ z, σ[s]? = some z → z ≤ h) : ∀ {A : sxA} {B : sxB}, (∀ q ∈ A, sxSm σ q) → sxBR T σ B → sxBR T σ (sxHiP s h A B)
  | [], _, _, hB => hB
  | q :: r, B, hA, hB => by
    have hr : ∀ q ∈ r, sxSm σ q := fun q hq => hA q (List.mem_cons_of_mem _ hq)
    rw [sxHiP_c]
    split
    · exact sxHiP_ok hz hr hB
    · rename_i hb
      have hb := Nat.eq_of_beq_eq_true hb
      split
      · rename_i pa ea
        split
        · rename_i pb eb
          obtain ⟨t, a, b, h1, h2, h3, h4⟩ := hA q List.mem_cons_self
          obtain ⟨a', f1, f2, f3⟩ := sxRgS_ok hB ea
          obtain ⟨b', f4, f5, f6⟩ := sxRgS_ok hB eb
          cases Option.some.inj (h2.symm.trans f1)
          cases Option.some.inj (h3.symm.trans f4)
          have ht := hz t (by rw [← hb]; exact h1)
          refine sxHiP_ok hz hr (sxHi0_ok (sxHi0_ok hB fun z hz' => ?_) fun z hz' => ?_)
          · cases Option.some.inj (h2.symm.trans hz')
            omega
          · cases Option.some.inj (h3.symm.trans hz')
            omega
        · exact sxHiP_ok hz hr hB
      · exact sxHiP_ok hz hr hB
theorem sxLoP_ok {T : Nat} {σ : List Int} {s : Nat} {l : Int} (hz : ∀ z, σ[s]? = some z → l ≤ z) : ∀ {A : sxA} {B : sxB}, (∀ q ∈ A, sxSm σ q) → sxBR T σ B → sxBR T σ (sxLoP s l A B)
  | [], _, _, hB => hB
  | q :: r, B, hA, hB => by
    have hr : ∀ q ∈ r, sxSm σ q := fun q hq => hA q (List.mem_cons_of_mem _ hq)
    rw [sxLoP_c]
    split
    · exact sxLoP_ok hz hr hB
    · rename_i hb
      have hb := Nat.eq_of_beq_eq_true hb
      split
      · rename_i pa ea
        split
        · rename_i pb eb
          obtain ⟨t, a, b, h1, h2, h3, h4⟩ := hA q List.mem_cons_self
          obtain ⟨a', f1, f2, f3⟩ := sxRgS_ok hB ea
          obtain ⟨b', f4, f5, f6⟩ := sxRgS_ok hB eb
          cases Option.some.inj (h2.symm.trans f1)
          cases Option.some.inj (h3.symm.trans f4)
          have ht := hz t (by rw [← hb]; exact h1)
          refine sxLoP_ok hz hr (sxLo0_ok (sxLo0_ok hB fun z hz' => ?_) fun z hz' => ?_)
          · cases Option.some.inj (h2.symm.trans hz')
            omega
          · cases Option.some.inj (h3.symm.trans hz')
            omega
        · exact sxLoP_ok hz hr hB
      · exact sxLoP_ok hz hr hB
/-- and what is known to differ little from it -/
def sxHiE (s : Nat) (h : Int) (l_ : sxE) : sxB → sxB := @List.rec _ (fun _ => sxB → sxB) (fun B => B) (fun q _ ih B => match Nat.beq q.2.1 s with
    | false => ih B
    | true => sxBk (sxHi0 B q.1 (h + q.2.2)) fun B1 => ih B1) l_
theorem sxHiE_c {s : Nat} {h : Int} {q : Nat × Nat × Int} {r : sxE} {B : sxB} : sxHiE s h (q :: r) B = (match Nat.beq q.2.1 s with
    | false => sxHiE s h r B
    | true => sxBk (sxHi0 B q.1 (h + q.2.2)) fun B1 => sxHiE s h r B1) := rfl
def sxLoE (s : Nat) (l : Int) (l_ : sxE) : sxB → sxB := @List.rec _ (fun _ => sxB → sxB) (fun B => B) (fun q _ ih B => match Nat.beq q.1 s with
    | false => ih B
    | true => sxBk (sxLo0 B q.2.1 (l - q.2.2)) fun B1 => ih B1) l_
theorem sxLoE_c {s : Nat} {l : Int} {q : Nat × Nat × Int} {r : sxE} {B : sxB} : sxLoE s l (q :: r) B = (match Nat.beq q.1 s with
    | false => sxLoE s l r B
    | true => sxBk (sxLo0 B q.2.1 (l - q.2.2)) fun B1 => sxLoE s l r B1) := rfl
theorem sxHiE_ok {T : Nat} {σ : List Int} {s : Nat} {h : Int} (hz : ∀ z, σ[s]? = some z → z ≤ h) : ∀ {E : sxE} {B : sxB}, (∀ q ∈ E, sxDf σ q) → sxBR T σ B → sxBR T σ (sxHiE s h E B)
  | [], _, _, hB => hB
  | q :: r, B, hE, hB => by
    have hr : ∀ q ∈ r, sxDf σ q := fun q hq => hE q (List.mem_cons_of_mem _ hq)
    rw [sxHiE_c]
    split
    · exact sxHiE_ok hz hr hB
    · rename_i hb
      have hb := Nat.eq_of_beq_eq_true hb
      obtain ⟨x, y, h1, h2, h3⟩ := hE q List.mem_cons_self
      have hy := hz y (by rw [← hb]; exact h2)
      refine sxHiE_ok hz hr (sxHi0_ok hB fun z hz' => ?_)
      cases Option.some.inj (h1.symm.trans hz')
      omega
theorem sxLoE_ok {T : Nat} {σ : List Int} {s : Nat} {l : Int} (hz : ∀ z, σ[s]? = some z → l ≤ z) : ∀ {E : sxE} {B : sxB}, (∀ q ∈ E, sxDf σ q) → sxBR T σ B → sxBR T σ (sxLoE s l E B)
  | [], _, _, hB => hB
  | q :: r, B, hE, hB => by
    have hr : ∀ q ∈ r, sxDf σ q := fun q hq => hE q (List.mem_cons_of_mem _ hq)
    rw [sxLoE_c]
    split
    · exact sxLoE_ok hz hr hB
    · rename_i hb
      have hb := Nat.eq_of_beq_eq_true hb
      obtain ⟨x, y, h1, h2, h3⟩ := hE q List.mem_cons_self
      have hy := hz x (by rw [← hb]; exact h1)
      refine sxLoE_ok hz hr (sxLo0_ok hB fun z hz' => ?_)
      cases Option.some.inj (h2.symm.trans hz')
      omega
def sxHi (B : sxB) (s : Nat) (h : Int) : sxB := match sxLeI B (s, 0) (0, 0) h with
  | true => B
  | false => sxBk (sxHi0 B s h) fun B1 => sxBk (sxHiP s h B.2.2.2.1 B1) fun B2 => sxHiE s h (sxCol B.2.2.1 s) B2
def sxLo (B : sxB) (s : Nat) (l : Int) : sxB := match sxLeI B (0, 0) (s, 0) (-l) with
  | true => B
  | false => sxBk (sxLo0 B s l) fun B1 => sxBk (sxLoP s l B.2.2.2.1 B1) fun B2 => sxLoE s l (sxRow B.2.2.1 s) B2
theorem sxHi_ok {T : Nat} {σ : List Int} {B : sxB} {s : Nat} {h : Int} (hB : sxBR T σ B) (hz : ∀ z, σ[s]? = some z → z ≤ h) : sxBR T σ (sxHi B s h) := by
  unfold sxHi
  split
  · exact hB
  · exact sxHiE_ok hz (fun q hq => hB.2.2.1 q (sxCol_sub hq)) (sxHiP_ok hz hB.2.2.2.1 (sxHi0_ok hB hz))
theorem sxLo_ok {T : Nat} {σ : List Int} {B : sxB} {s : Nat} {l : Int} (hB : sxBR T σ B) (hz : ∀ z, σ[s]? = some z → l ≤ z) : sxBR T σ (sxLo B s l) := by
  unfold sxLo
  split
  · exact hB
  · exact sxLoE_ok hz (fun q hq => hB.2.2.1 q (sxRow_sub hq)) (sxLoP_ok hz hB.2.2.2.1 (sxLo0_ok hB hz))
/-- what follows with what is known already -/
def sxClo (E0 : sxE) (s t : Nat) (e : Int) (acc : sxE) (l_ : sxE) : sxE := @List.rec _ (fun _ => sxE) (acc) (fun q _ ih => match Nat.beq q.2.1 s with
    | true => (match Nat.beq q.1 t with
      | true => ih
      | false => iFc (q.2.2 + e) fun k => match sxFE (sxCol E0 t) q.1 t k with
        | true => ih
        | false => (q.1, t, k) :: ih)
    | false => ih) l_
theorem sxClo_c {E0 : sxE} {s t : Nat} {e : Int} {acc : sxE} {q : Nat × Nat × Int} {r : sxE} : sxClo E0 s t e acc (q :: r) = (match Nat.beq q.2.1 s with
    | true => (match Nat.beq q.1 t with
      | true => sxClo E0 s t e acc r
      | false => iFc (q.2.2 + e) fun k => match sxFE (sxCol E0 t) q.1 t k with
        | true => sxClo E0 s t e acc r
        | false => (q.1, t, k) :: sxClo E0 s t e acc r)
    | false => sxClo E0 s t e acc r) := rfl
theorem sxClo_ok {σ : List Int} {E0 : sxE} {s t : Nat} {e a b : Int} {acc : sxE} (hs : σ[s]? = some a) (ht : σ[t]? = some b) (h : a - b ≤ e) (hacc : ∀ q ∈ acc, sxDf σ q) : ∀ {E : sxE}, (∀ q ∈ E, sxDf σ q) → ∀ q ∈ sxClo E0 s t e acc E, sxDf σ q
  | [], _, q, hq => hacc q hq
  | q0 :: r, hE, q, hq => by
    have ih := sxClo_ok (E0 := E0) hs ht h hacc (E := r) (fun q hq => hE q (List.mem_cons_of_mem _ hq))
    rw [sxClo_c] at hq
    split at hq
    · rename_i hb
      split at hq
      · exact ih q hq
      · rw [iFc_eq] at hq
        split at hq
        · exact ih q hq
        · rcases List.mem_cons.mp hq with rfl | hq
          · obtain ⟨x, y, h1, h2, h3⟩ := hE q0 List.mem_cons_self
            rw [Nat.eq_of_beq_eq_true hb] at h2
            cases Option.some.inj (hs.symm.trans h2)
            exact ⟨x, b, h1, ht, by dsimp only; omega⟩
          · exact ih q hq
    · exact ih q hq
def sxCloR (E0 : sxE) (s t : Nat) (e : Int) (acc : sxE) (l_ : sxE) : sxE := @List.rec _ (fun _ => sxE) (acc) (fun q _ ih => match Nat.beq q.1 t with
    | true => (match Nat.beq q.2.1 s with
      | true => ih
      | false => iFc (q.2.2 + e) fun k => match sxFE (sxRow E0 s) s q.2.1 k with
        | true => ih
        | false => (s, q.2.1, k) :: ih)
    | false => ih) l_
theorem sxCloR_c {E0 : sxE} {s t : Nat} {e : Int} {acc : sxE} {q : Nat × Nat × Int} {r : sxE} : sxCloR E0 s t e acc (q :: r) = (match Nat.beq q.1 t with
    | true => (match Nat.beq q.2.1 s with
      | true => sxCloR E0 s t e acc r
      | false => iFc (q.2.2 + e) fun k => match sxFE (sxRow E0 s) s q.2.1 k with
        | true => sxCloR E0 s t e acc r
        | false => (s, q.2.1, k) :: sxCloR E0 s t e acc r)
    | false => sxCloR E0 s t e acc r) := rfl
theorem sxCloR_ok {σ : List Int} {E0 : sxE} {s t : Nat} {e a b : Int} {acc : sxE} (hs : σ[s]? = some a) (ht : σ[t]? = some b) (h : a - b ≤ e) (hacc : ∀ q ∈ acc, sxDf σ q) : ∀ {E : sxE}, (∀ q ∈ E, sxDf σ q) → ∀ q ∈ sxCloR E0 s t e acc E, sxDf σ q
  | [], _, q, hq => hacc q hq
  | q0 :: r, hE, q, hq => by
    have ih := sxCloR_ok (E0 := E0) hs ht h hacc (E := r) (fun q hq => hE q (List.mem_cons_of_mem _ hq))
    rw [sxCloR_c] at hq
    split at hq
    · rename_i hb
      split at hq
      · exact ih q hq
      · rw [iFc_eq] at hq
        split at hq
        · exact ih q hq
        · rcases List.mem_cons.mp hq with rfl | hq
          · obtain ⟨x, y, h1, h2, h3⟩ := hE q0 List.mem_cons_self
            rw [Nat.eq_of_beq_eq_true hb] at h1
            cases Option.some.inj (ht.symm.trans h1)
            exact ⟨a, y, hs, h2, by dsimp only; omega⟩
          · exact ih q hq
    · exact ih q hq
/-- from ahead to behind -/
def sxCloY (E0 : sxE) (u t : Nat) (k : Int) (s : Nat) (acc : sxE) (l_ : sxE) : sxE := @List.rec _ (fun _ => sxE) (acc) (fun q _ ih => match Nat.beq q.1 t with
    | true => (match Nat.beq q.2.1 s with
      | true => ih
      | false => match Nat.beq q.2.1 u with
        | true => ih
        | false => iFc (q.2.2 + k) fun h => match sxFE (sxRow E0 u) u q.2.1 h with
          | true => ih
          | false => (u, q.2.1, h) :: ih)
    | false => ih) l_
theorem sxCloY_c {E0 : sxE} {u t : Nat} {k : Int} {s : Nat} {acc : sxE} {q : Nat × Nat × Int} {r : sxE} : sxCloY E0 u t k s acc (q :: r) = (match Nat.beq q.1 t with
    | true => (match Nat.beq q.2.1 s with
      | true => sxCloY E0 u t k s acc r
      | false => match Nat.beq q.2.1 u with
        | true => sxCloY E0 u t k s acc r
        | false => iFc (q.2.2 + k) fun h => match sxFE (sxRow E0 u) u q.2.1 h with
          | true => sxCloY E0 u t k s acc r
          | false => (u, q.2.1, h) :: sxCloY E0 u t k s acc r)
    | false => sxCloY E0 u t k s acc r) := rfl
theorem sxCloY_ok {σ : List Int} {E0 : sxE} {u s t : Nat} {k a b : Int} {acc : sxE} (hu : σ[u]? = some a) (ht : σ[t]? = some b) (h : a - b ≤ k) (hacc : ∀ q ∈ acc, sxDf σ q) : ∀ {E : sxE}, (∀ q ∈ E, sxDf σ q) → ∀ q ∈ sxCloY E0 u t k s acc E, sxDf σ q
  | [], _, q, hq => hacc q hq
  | q0 :: r, hE, q, hq => by
    have ih := sxCloY_ok (E0 := E0) (s := s) hu ht h hacc (E := r) (fun q hq => hE q (List.mem_cons_of_mem _ hq))
    rw [sxCloY_c] at hq
    split at hq
    · rename_i hb
      split at hq
      · exact ih q hq
      · split at hq
        · exact ih q hq
        · rw [iFc_eq] at hq
          split at hq
          · exact ih q hq
          · rcases List.mem_cons.mp hq with rfl | hq
            · obtain ⟨x, y, h1, h2, h3⟩ := hE q0 List.mem_cons_self
              rw [Nat.eq_of_beq_eq_true hb] at h1
              cases Option.some.inj (ht.symm.trans h1)
              exact ⟨a, y, hu, h2, by dsimp only; omega⟩
            · exact ih q hq
    · exact ih q hq
def sxCloX (E0 : sxE) (s t : Nat) (e : Int) (R acc : sxE) (l_ : sxE) : sxE := @List.rec _ (fun _ => sxE) (acc) (fun q _ ih => match Nat.beq q.2.1 s with
    | true => (match Nat.beq q.1 t with
      | true => ih
      | false => iFc (q.2.2 + e) fun k => sxCloY E0 q.1 t k s (ih) R)
    | false => ih) l_
theorem sxCloX_c {E0 : sxE} {s t : Nat} {e : Int} {R acc : sxE} {q : Nat × Nat × Int} {r : sxE} : sxCloX E0 s t e R acc (q :: r) = (match Nat.beq q.2.1 s with
    | true => (match Nat.beq q.1 t with
      | true => sxCloX E0 s t e R acc r
      | false => iFc (q.2.2 + e) fun k => sxCloY E0 q.1 t k s (sxCloX E0 s t e R acc r) R)
    | false => sxCloX E0 s t e R acc r) := rfl
theorem sxCloX_ok {σ : List Int} {E0 : sxE} {s t : Nat} {e a b : Int} {R acc : sxE} (hs : σ[s]? = some a) (ht : σ[t]? = some b) (h : a - b ≤ e) (hR : ∀ q ∈ R, sxDf σ q) (hacc : ∀ q ∈ acc, sxDf σ q) : ∀ {E : sxE}, (∀ q ∈ E, sxDf σ q) → ∀ q ∈ sxCloX E0 s t e R acc E, sxDf σ q
  | [], _, q, hq => hacc q hq
  | q0 :: r, hE, q, hq => by
    have ih := sxCloX_ok (E0 := E0) hs ht h hR hacc (E := r) (fun q hq => hE q (List.mem_cons_of_mem _ hq))
    rw [sxCloX_c] at hq
    split at hq
    · rename_i hb
      split at hq
      · exact ih q hq
      · rw [iFc_eq] at hq
        obtain ⟨x, y, h1, h2, h3⟩ := hE q0 List.mem_cons_self
        rw [Nat.eq_of_beq_eq_true hb] at h2
        cases Option.some.inj (hs.symm.trans h2)
        exact sxCloY_ok h1 ht (by omega) ih hR q hq
    · exact ih q hq
def sxFact (B : sxB) (s t : Nat) (e : Int) : sxB := match s with
  | 0 => B
  | s' + 1 => match t with
    | 0 => B
    | t' + 1 => iFc e fun e => (B.1, B.2.1, (s' + 1, t' + 1, e) :: sxClo B.2.2.1 (s' + 1) (t' + 1) e (sxCloR B.2.2.1 (s' + 1) (t' + 1) e (sxCloX B.2.2.1 (s' + 1) (t' + 1) e (sxRow B.2.2.1 (t' + 1)) B.2.2.1 (sxCol B.2.2.1 (s' + 1))) (sxRow B.2.2.1 (t' + 1))) (sxCol B.2.2.1 (s' + 1)), B.2.2.2)
theorem sxFact_ok {T : Nat} {σ : List Int} {B : sxB} {s t : Nat} {e a b : Int} (hB : sxBR T σ B) (hs : σ[s]? = some a) (ht : σ[t]? = some b) (h : a - b ≤ e) : sxBR T σ (sxFact B s t e) := by
  unfold sxFact
  split
  · exact hB
  · split
    · exact hB
    · rw [iFc_eq]
      refine ⟨hB.1, hB.2.1, fun q hq => ?_, hB.2.2.2⟩
      rcases List.mem_cons.mp hq with rfl | hq
      · exact ⟨a, b, hs, ht, h⟩
      · exact sxClo_ok hs ht h (sxCloR_ok hs ht h (sxCloX_ok hs ht h (fun q hq => hB.2.2.1 q (sxRow_sub hq)) hB.2.2.1 (fun q hq => hB.2.2.1 q (sxCol_sub hq))) (fun q hq => hB.2.2.1 q (sxRow_sub hq))) (fun q hq => hB.2.2.1 q (sxCol_sub hq)) q hq
/-- from now on: x - y ≤ c -/
def sxAsm0 (B : sxB) (x y : sxN) (c : Int) : sxB := match sxRgS B x.1 with
  | some p => (match sxRgS B y.1 with
    | some q => iFc (c - x.2 + y.2) fun e => iFc (q.2 + e) fun h => iFc (p.1 - e) fun l => bFc x.1 fun s => bFc y.1 fun t => sxBk (sxHi B s h) fun B1 => sxBk (sxLo B1 t l) fun B2 => sxFact B2 s t e
    | none => B)
  | none => B
theorem sxAsm0_ok {T : Nat} {σ : List Int} {B : sxB} {x y : sxN} {c X Y : Int} (hB : sxBR T σ B) (hx : sxNR σ x X) (hy : sxNR σ y Y) (h : X - Y ≤ c) : sxBR T σ (sxAsm0 B x y c) := by
  obtain ⟨a, h1, h2⟩ := hx
  obtain ⟨b, h3, h4⟩ := hy
  unfold sxAsm0
  split
  · rename_i p hp
    split
    · rename_i q hq
      obtain ⟨u, e1, e2, e3⟩ := sxRgS_ok hB hp
      obtain ⟨v, e4, e5, e6⟩ := sxRgS_ok hB hq
      cases Option.some.inj (h1.symm.trans e1)
      cases Option.some.inj (h3.symm.trans e4)
      rw [iFc_eq, iFc_eq, iFc_eq, bFc_eq, bFc_eq, sxBk_eq, sxBk_eq]
      refine sxFact_ok (sxLo_ok (sxHi_ok hB fun z hz => ?_) fun z hz => ?_) h1 h3 (by omega)
      · cases Option.some.inj (h1.symm.trans hz)
        omega
      · cases Option.some.inj (h3.symm.trans hz)
        omega
    · exact hB
  · exact hB
/-- where that isn't known already -/
def sxAsm (B : sxB) (x y : sxN) (c : Int) : sxB := match sxLe B x y c with
  | true => B
  | false => sxAsm0 B x y c
theorem sxAsm_ok {T : Nat} {σ : List Int} {B : sxB} {x y : sxN} {c X Y : Int} (hB : sxBR T σ B) (hx : sxNR σ x X) (hy : sxNR σ y Y) (h : X - Y ≤ c) : sxBR T σ (sxAsm B x y c) := by
  unfold sxAsm
  split
  · exact hB
  · exact sxAsm0_ok hB hx hy h
def sxBad (B : sxB) (s : Nat) : Bool := match sxRgS B s with
  | some p => (match iLe p.1 p.2 with | true => false | false => true)
  | none => false
theorem sxBad_no {T : Nat} {σ : List Int} {B : sxB} {s : Nat} (hB : sxBR T σ B) : sxBad B s = false := by
  unfold sxBad
  split
  · rename_i p hp
    obtain ⟨z, h1, h2, h3⟩ := sxRgS_ok hB hp
    rw [iLe_iff.mpr (Int.le_trans h2 h3)]
  · rfl
/-- the branch on which x < y, x ≤ y -/
def sxOkB (B : sxB) (x y : sxN) : List sxB := match sxBad B x.1 with
  | true => []
  | false => match sxBad B y.1 with
    | true => []
    | false => [B]
def sxLtC (B : sxB) (x y : sxN) : List sxB := match sxLe B y x 0 with
  | true => []
  | false => sxOkB (sxAsm B x y (-1)) x y
def sxLeC (B : sxB) (x y : sxN) : List sxB := match sxLe B y x (-1) with
  | true => []
  | false => sxOkB (sxAsm B x y 0) x y
/-- facts that go on: only where there are some -/
def sxFNe (B : sxB) (x y : sxN) : sxB := match B.2.2.2.2 with
  | [] => B
  | q :: r => (B.1, B.2.1, B.2.2.1, B.2.2.2.1, (21, x, y, (0, 1)) :: q :: r)
def sxNeC (B : sxB) (x y : sxN) : List sxB := match sxLe B x y 0 with
  | true => (match sxLe B y x 0 with | true => [] | false => sxOkB (sxAsm B x y (-1)) x y)
  | false => match sxLe B y x 0 with
    | true => sxOkB (sxAsm B y x (-1)) x y
    | false => [sxFNe B x y]
variable {T : Nat} {σ : List Int} {B : sxB} {x y : sxN} {X Y : Int}
theorem sxOkB_ok (hB : sxBR T σ B) : B ∈ sxOkB B x y := by
  unfold sxOkB
  rw [sxBad_no hB]
  dsimp only
  rw [sxBad_no hB]
  exact List.mem_cons_self
theorem sxLtC_ok (hB : sxBR T σ B) (hx : sxNR σ x X) (hy : sxNR σ y Y) (h : X < Y) : ∃ B' ∈ sxLtC B x y, sxBR T σ B' := by
  unfold sxLtC
  split
  · rename_i e
    have := sxLe_ok hB e hy hx
    omega
  · have h1 := sxAsm_ok (c := -1) hB hx hy (by omega)
    exact ⟨_, sxOkB_ok h1, h1⟩
theorem sxLeC_ok (hB : sxBR T σ B) (hx : sxNR σ x X) (hy : sxNR σ y Y) (h : X ≤ Y) : ∃ B' ∈ sxLeC B x y, sxBR T σ B' := by
  unfold sxLeC
  split
  · rename_i e
    have := sxLe_ok hB e hy hx
    omega
  · have h1 := sxAsm_ok (c := 0) hB hx hy (by omega)
    exact ⟨_, sxOkB_ok h1, h1⟩
theorem sxFNe_ok (hB : sxBR T σ B) (hx : sxNR σ x X) (hy : sxNR σ y Y) (h : X ≠ Y) : sxBR T σ (sxFNe B x y) := by
  unfold sxFNe
  split
  · exact hB
  · rename_i q r e
    refine ⟨hB.1, hB.2.1, hB.2.2.1, hB.2.2.2.1, fun p hp => ?_⟩
    rcases List.mem_cons.mp hp with rfl | hp
    · exact ⟨X, Y, 1, hx, hy, ⟨0, hB.1.2, by simp⟩, by simp only [sxSem]; rw [if_neg h]⟩
    · exact hB.2.2.2.2 p (by rw [e]; exact hp)
theorem sxNeC_ok (hB : sxBR T σ B) (hx : sxNR σ x X) (hy : sxNR σ y Y) (h : X ≠ Y) : ∃ B' ∈ sxNeC B x y, sxBR T σ B' := by
  unfold sxNeC
  split
  · rename_i e
    have h1 := sxLe_ok hB e hx hy
    split
    · rename_i e2
      have h2 := sxLe_ok hB e2 hy hx
      omega
    · have h2 := sxAsm_ok (c := -1) hB hx hy (by omega)
      exact ⟨_, sxOkB_ok h2, h2⟩
  · split
    · rename_i e2
      have h1 := sxLe_ok hB e2 hy hx
      have h2 := sxAsm_ok (c := -1) hB hy hx (by omega)
      exact ⟨_, sxOkB_ok h2, h2⟩
    · exact ⟨_, List.mem_cons_self, sxFNe_ok hB hx hy h⟩
def sxEqC (B : sxB) (x y : sxN) : List sxB := (sxLeC B x y).flatMap (fun B => sxLeC B y x)
theorem sxEqC_ok (hB : sxBR T σ B) (hx : sxNR σ x X) (hy : sxNR σ y Y) (h : X = Y) : ∃ B' ∈ sxEqC B x y, sxBR T σ B' := by
  obtain ⟨B1, h1, h2⟩ := sxLeC_ok hB hx hy (by omega)
  obtain ⟨B2, h3, h4⟩ := sxLeC_ok h2 hy hx (by omega)
  exact ⟨B2, List.mem_flatMap.mpr ⟨B1, h1, h3⟩, h4⟩
/-- the ways that a condition may go -/
def sxBr (c : Jvm.ClassFile.Cond) (B : sxB) (x y : sxN) : List (Bool × sxB) := match c with
  | .lt => (sxLtC B x y).map (fun b => (true, b)) ++ (sxLeC B y x).map (fun b => (false, b))
  | .ge => (sxLeC B y x).map (fun b => (true, b)) ++ (sxLtC B x y).map (fun b => (false, b))
  | .gt => (sxLtC B y x).map (fun b => (true, b)) ++ (sxLeC B x y).map (fun b => (false, b))
  | .le => (sxLeC B x y).map (fun b => (true, b)) ++ (sxLtC B y x).map (fun b => (false, b))
  | .eq => (sxEqC B x y).map (fun b => (true, b)) ++ (sxNeC B x y).map (fun b => (false, b))
  | .ne => (sxNeC B x y).map (fun b => (true, b)) ++ (sxEqC B x y).map (fun b => (false, b))
theorem sxBr_ok {c : Jvm.ClassFile.Cond} {X Y : Int32} (hB : sxBR T σ B) (hx : sxNR σ x X.toInt) (hy : sxNR σ y Y.toInt) : ∃ q ∈ sxBr c B x y, mjC c X Y = q.1 ∧ sxBR T σ q.2 := by
  have L : ∀ {l1 l2 : List sxB} {t : Bool}, (∃ B' ∈ l1, sxBR T σ B') → ∃ q ∈ l1.map (fun b => (t, b)) ++ l2.map (fun b => (!t, b)), t = q.1 ∧ sxBR T σ q.2 := by
    intro l1 l2 t h
    obtain ⟨B', h1, h2⟩ := h
    exact ⟨(t, B'), List.mem_append_left _ (List.mem_map.mpr ⟨B', h1, rfl⟩), rfl, h2⟩
  have R : ∀ {l1 l2 : List sxB} {t : Bool}, (∃ B' ∈ l2, sxBR T σ B') → ∃ q ∈ l1.map (fun b => (!t, b)) ++ l2.map (fun b => (t, b)), t = q.1 ∧ sxBR T σ q.2 := by
    intro l1 l2 t h
    obtain ⟨B', h1, h2⟩ := h
    exact ⟨(t, B'), List.mem_append_right _ (List.mem_map.mpr ⟨B', h1, rfl⟩), rfl, h2⟩
  cases c <;> simp only [mjC, sxBr, Int32.lt_iff_toInt_lt, Int32.le_iff_toInt_le, ← Int32.toInt_inj]
  case eq =>
    by_cases h : X.toInt = Y.toInt
    · rw [decide_eq_true h]; exact L (t := true) (sxEqC_ok hB hx hy h)
    · rw [decide_eq_false h]; exact R (t := false) (sxNeC_ok hB hx hy h)
  case ne =>
    by_cases h : X.toInt = Y.toInt
    · rw [decide_eq_false (fun q => q h)]; exact R (t := false) (sxEqC_ok hB hx hy h)
    · rw [decide_eq_true h]; exact L (t := true) (sxNeC_ok hB hx hy h)
  case lt =>
    by_cases h : X.toInt < Y.toInt
    · rw [decide_eq_true h]; exact L (t := true) (sxLtC_ok hB hx hy h)
    · rw [decide_eq_false h]; exact R (t := false) (sxLeC_ok hB hy hx (by omega))
  case ge =>
    by_cases h : Y.toInt ≤ X.toInt
    · rw [decide_eq_true h]; exact L (t := true) (sxLeC_ok hB hy hx h)
    · rw [decide_eq_false h]; exact R (t := false) (sxLtC_ok hB hx hy (by omega))
  case gt =>
    by_cases h : Y.toInt < X.toInt
    · rw [decide_eq_true h]; exact L (t := true) (sxLtC_ok hB hy hx h)
    · rw [decide_eq_false h]; exact R (t := false) (sxLeC_ok hB hx hy (by omega))
  case le =>
    by_cases h : X.toInt ≤ Y.toInt
    · rw [decide_eq_true h]; exact L (t := true) (sxLeC_ok hB hx hy h)
    · rw [decide_eq_false h]; exact R (t := false) (sxLtC_ok hB hy hx (by omega))
/-- a new symbol -/
def sxNew (B : sxB) (lo hi : Int) : sxB × sxN := match iEq lo hi with
  | true => (B, (0, lo))
  | false => ((B.1 + 1, (B.1, lo, hi) :: B.2.1, B.2.2), (B.1, 0))
theorem sxNew_ok {lo hi z : Int} (hB : sxBR T σ B) (h1 : lo ≤ z) (h2 : z ≤ hi) : ∃ σ', sxUp σ σ' ∧ sxBR T σ' (sxNew B lo hi).1 ∧ sxNR σ' (sxNew B lo hi).2 z := by
  unfold sxNew
  split
  · rename_i e
    have := iEq_ok e
    exact ⟨σ, sxUp.rf, hB, 0, hB.1.2, by dsimp only; omega⟩
  · have hu := sxUp.app σ [z]
    have hl : (σ ++ [z])[B.1]? = some z := by
      rw [← hB.1.1, List.getElem?_append_right (Nat.le_refl _), Nat.sub_self]
      rfl
    refine ⟨σ ++ [z], hu, ⟨⟨by rw [List.length_append, hB.1.1]; rfl, hu _ _ hB.1.2⟩, fun q hq => ?_, fun q hq => (hB.2.2.1 q hq).up hu, fun q hq => (hB.2.2.2.1 q hq).up hu, fun q hq => (hB.2.2.2.2 q hq).up hu⟩, z, hl, by simp⟩
    rcases List.mem_cons.mp hq with rfl | hq
    · exact ⟨z, hl, h1, h2⟩
    · exact (hB.2.1 q hq).up hu
end SXVAL

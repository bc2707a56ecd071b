/-! SX: locals, stack -/
section SXLS
def sxK : sxV → Nat
  | .inr (false, _) => 0
  | .inr (true, _) => 1
  | .inl _ => 2
def sxCat : sxV → Nat
  | .inl _ => 1
  | .inr (false, _) => 1
  | .inr (true, _) => 2
def sxSc (n : Nat) : sxV → Bool
  | .inl r => mjSc n (.ref r)
  | .inr _ => true
theorem sxVR_cat {σ : List Int} {a : sxV} {v : Value} (h : sxVR σ a v) : v.category = sxCat a := by
  match a, h with
  | .inl w, h => cases (show v = .ref w from h); rfl
  | .inr (false, n), h => obtain ⟨x, rfl, -⟩ := h; rfl
  | .inr (true, n), h => obtain ⟨x, rfl, -⟩ := h; rfl
theorem sxVR_sc {σ : List Int} {a : sxV} {v : Value} {n : Nat} (h : sxVR σ a v) (hs : sxSc n a = true) : mjSc n v = true := by
  match a, h with
  | .inl w, h => cases (show v = .ref w from h); exact hs
  | .inr (false, _), h => obtain ⟨x, rfl, -⟩ := h; rfl
  | .inr (true, _), h => obtain ⟨x, rfl, -⟩ := h; rfl
theorem sxK0 {σ : List Int} {a : sxV} {v : Value} (h : sxVR σ a v) (hk : sxK a = 0) : ∃ x n, a = .inr (false, n) ∧ v = .int x ∧ sxNR σ n x.toInt := by
  match a, h with
  | .inl w, h => cases hk
  | .inr (false, n), h => obtain ⟨x, e, h⟩ := h; exact ⟨x, n, rfl, e, h⟩
  | .inr (true, n), h => cases hk
theorem sxK1 {σ : List Int} {a : sxV} {v : Value} (h : sxVR σ a v) (hk : sxK a = 1) : ∃ x n, a = .inr (true, n) ∧ v = .long x ∧ sxNR σ n x.toInt := by
  match a, h with
  | .inl w, h => cases hk
  | .inr (false, n), h => cases hk
  | .inr (true, n), h => obtain ⟨x, e, h⟩ := h; exact ⟨x, n, rfl, e, h⟩
theorem sxK2 {σ : List Int} {a : sxV} {v : Value} (h : sxVR σ a v) (hk : sxK a = 2) : ∃ x, a = .inl x ∧ v = .ref x := by
  match a, h with
  | .inl w, h => exact ⟨w, rfl, h⟩
  | .inr (false, n), h => cases hk
  | .inr (true, n), h => cases hk
def sxSR (σ : List Int) : List sxV → List Value → Prop
  | [], [] => True
  | a :: as, v :: vs => sxVR σ a v ∧ sxSR σ as vs
  | _, _ => False
def sxLR (σ : List Int) : sxL → mjL → Prop
  | [], [] => True
  | a :: as, v :: vs => (a.1 = v.1 ∧ sxVR σ a.2 v.2) ∧ sxLR σ as vs
  | _, _ => False
variable {σ σ' : List Int}
theorem sxSR.up (hu : sxUp σ σ') : ∀ {as : List sxV} {vs : List Value}, sxSR σ as vs → sxSR σ' as vs
  | [], [], _ => trivial
  | _ :: _, _ :: _, h => ⟨h.1.up hu, sxSR.up hu h.2⟩
  | [], _ :: _, h => h.elim
  | _ :: _, [], h => h.elim
theorem sxLR.up (hu : sxUp σ σ') : ∀ {as : sxL} {vs : mjL}, sxLR σ as vs → sxLR σ' as vs
  | [], [], _ => trivial
  | _ :: _, _ :: _, h => ⟨⟨h.1.1, h.1.2.up hu⟩, sxLR.up hu h.2⟩
  | [], _ :: _, h => h.elim
  | _ :: _, [], h => h.elim
theorem sxSR_c {a : sxV} {as : List sxV} {vs : List Value} (h : sxSR σ (a :: as) vs) : ∃ v vs', vs = v :: vs' ∧ sxVR σ a v ∧ sxSR σ as vs' := by
  cases vs with
  | nil => exact h.elim
  | cons v vs' => exact ⟨v, vs', rfl, h.1, h.2⟩
theorem sxSR_n {vs : List Value} (h : sxSR σ [] vs) : vs = [] := by
  cases vs with
  | nil => rfl
  | cons v vs' => exact h.elim
theorem sxSR_app {as bs : List sxV} : ∀ {vs ws : List Value}, sxSR σ as vs → sxSR σ bs ws → sxSR σ (as ++ bs) (vs ++ ws) := by
  induction as with
  | nil => intro vs ws h1 h2; cases sxSR_n h1; exact h2
  | cons a as ih =>
    intro vs ws h1 h2
    obtain ⟨v, vs', rfl, h3, h4⟩ := sxSR_c h1
    exact ⟨h3, ih h4 h2⟩
theorem sxSR_len {as : List sxV} : ∀ {vs : List Value}, sxSR σ as vs → vs.length = as.length := by
  induction as with
  | nil => intro vs h; cases sxSR_n h; rfl
  | cons a as ih =>
    intro vs h
    obtain ⟨v, vs', rfl, -, h4⟩ := sxSR_c h
    simp [ih h4]
theorem sxSR_split {as : List sxV} : ∀ {vs : List Value} (n : Nat), sxSR σ as vs → sxSR σ (as.take n) (vs.take n) ∧ sxSR σ (as.drop n) (vs.drop n) := by
  induction as with
  | nil => intro vs n h; cases sxSR_n h; simp [sxSR]
  | cons a as ih =>
    intro vs n h
    obtain ⟨v, vs', rfl, h3, h4⟩ := sxSR_c h
    cases n with
    | zero => exact ⟨trivial, h3, h4⟩
    | succ n => exact ⟨⟨h3, (ih n h4).1⟩, (ih n h4).2⟩
theorem sxSR_rev {as : List sxV} : ∀ {vs : List Value}, sxSR σ as vs → sxSR σ as.reverse vs.reverse := by
  induction as with
  | nil => intro vs h; cases sxSR_n h; exact trivial
  | cons a as ih =>
    intro vs h
    obtain ⟨v, vs', rfl, h3, h4⟩ := sxSR_c h
    rw [List.reverse_cons, List.reverse_cons]
    exact sxSR_app (ih h4) ⟨h3, trivial⟩
theorem sxSR_cat {as : List sxV} : ∀ {vs : List Value}, sxSR σ as vs → vs.map (fun v => v.category) = as.map sxCat := by
  induction as with
  | nil => intro vs h; cases sxSR_n h; rfl
  | cons a as ih =>
    intro vs h
    obtain ⟨v, vs', rfl, h3, h4⟩ := sxSR_c h
    rw [List.map_cons, List.map_cons, ih h4, sxVR_cat h3]
theorem sxSR_sc {n : Nat} {as : List sxV} : ∀ {vs : List Value}, sxSR σ as vs → as.all (sxSc n) = true → vs.all (mjSc n) = true := by
  induction as with
  | nil => intro vs h _; cases sxSR_n h; rfl
  | cons a as ih =>
    intro vs h hs
    obtain ⟨v, vs', rfl, h3, h4⟩ := sxSR_c h
    simp only [List.all_cons, Bool.and_eq_true] at hs ⊢
    exact ⟨sxVR_sc h3 hs.1, ih h4 hs.2⟩
theorem sxSR_lg {as : List sxV} : ∀ {vs : List Value}, sxSR σ as vs → (lg_sl vs).length = (as.map sxCat).sum := by
  induction as with
  | nil => intro vs h; cases sxSR_n h; rfl
  | cons a as ih =>
    intro vs h
    obtain ⟨v, vs', rfl, h3, h4⟩ := sxSR_c h
    have e := ih h4
    simp only [lg_sl, List.flatMap_cons, List.length_append, List.map_cons, List.sum_cons] at e ⊢
    rw [e, ← sxVR_cat h3]
    congr 1
    cases v <;> rfl
def sxGt : sxL → Nat → Option sxV
  | [], _ => none
  | q :: r, i => match Nat.beq q.1 i with | true => some q.2 | false => sxGt r i
theorem sxLR_get {as : sxL} : ∀ {vs : mjL} {i : Nat} {a : sxV}, sxLR σ as vs → sxGt as i = some a → ∃ v, mjGet vs i = some v ∧ sxVR σ a v := by
  induction as with
  | nil => intro vs i a _ h; cases h
  | cons q r ih =>
    intro vs i a h1 h2
    cases vs with
    | nil => exact h1.elim
    | cons w ws =>
      obtain ⟨⟨e, h3⟩, h4⟩ := h1
      simp only [sxGt] at h2
      simp only [mjGet, ← e]
      split at h2
      · rename_i hb
        have hq : q.1 = i := Nat.eq_of_beq_eq_true hb
        rw [if_pos (by simp [hq])]
        cases h2
        exact ⟨_, rfl, h3⟩
      · rename_i hb
        have hq : ¬ q.1 = i := Nat.ne_of_beq_eq_false hb
        rw [if_neg (by simp [hq])]
        exact ih h4 h2
theorem sxLR_filter (g : Nat → Nat → Bool) {as : sxL} : ∀ {vs : mjL}, sxLR σ as vs → sxLR σ (as.filter (fun q => g q.1 (sxCat q.2))) (vs.filter (fun q => g q.1 q.2.category)) := by
  induction as with
  | nil =>
    intro vs h
    cases vs with
    | nil => exact trivial
    | cons w ws => exact h.elim
  | cons q r ih =>
    intro vs h
    cases vs with
    | nil => exact h.elim
    | cons w ws =>
      obtain ⟨⟨e, h3⟩, h4⟩ := h
      rw [List.filter_cons, List.filter_cons, sxVR_cat h3, ← e]
      split
      · exact ⟨⟨e, h3⟩, ih h4⟩
      · exact ih h4
def sxFlt (g : Nat → Nat → Bool) : sxL → sxL
  | [] => []
  | q :: r => match g q.1 (sxCat q.2) with | true => q :: sxFlt g r | false => sxFlt g r
theorem sxFlt_eq (g : Nat → Nat → Bool) : ∀ ls : sxL, sxFlt g ls = ls.filter (fun q => g q.1 (sxCat q.2))
  | [] => rfl
  | q :: r => by
    rw [sxFlt, List.filter_cons, sxFlt_eq g r]
    cases g q.1 (sxCat q.2) <;> rfl
def sxStO (i : Nat) (v : sxV) (ls : sxL) : sxL := (i, v) :: sxFlt (aG1 i) ls
def sxStT (i : Nat) (v : sxV) (ls : sxL) : sxL := (i, v) :: sxFlt (aG2 i) ls
def sxDel (j : Nat) (ls : sxL) : sxL := ls.filter (fun q => !(q.1 == j) && !(q.1 + 1 == j && sxCat q.2 == 2))
theorem sxLR_st {i : Nat} {a : sxV} {v : Value} {as : sxL} {vs : mjL} (h : sxLR σ as vs) (ha : sxVR σ a v) : sxLR σ (sxStO i a as) (mjSt i v vs) := by
  refine ⟨⟨rfl, ha⟩, ?_⟩
  rw [sxFlt_eq, aG1_eq]
  exact sxLR_filter (fun x y => !(x == i) && !(x + 1 == i && y == 2)) h
theorem sxLR_st2 {i : Nat} {a : sxV} {v : Value} {as : sxL} {vs : mjL} (h : sxLR σ as vs) (ha : sxVR σ a v) : sxLR σ (sxStT i a as) (mjSt2 i v vs) := by
  refine ⟨⟨rfl, ha⟩, ?_⟩
  rw [sxFlt_eq, aG2_eq]
  exact sxLR_filter (fun x y => !(x == i) && (!(x == i + 1) && !(x + 1 == i && y == 2))) h
theorem sxLR_del {j : Nat} {as : sxL} {vs : mjL} (h : sxLR σ as vs) : sxLR σ (sxDel j as) (mjDel j vs) := sxLR_filter (fun x y => !(x == j) && !(x + 1 == j && y == 2)) h
theorem sxLR_sc {n : Nat} {as : sxL} : ∀ {vs : mjL}, sxLR σ as vs → as.all (fun q => sxSc n q.2) = true → vs.all (fun q => mjSc n q.2) = true := by
  induction as with
  | nil =>
    intro vs h _
    cases vs with
    | nil => rfl
    | cons w ws => exact h.elim
  | cons q r ih =>
    intro vs h hs
    cases vs with
    | nil => exact h.elim
    | cons w ws =>
      simp only [List.all_cons, Bool.and_eq_true] at hs ⊢
      exact ⟨sxVR_sc h.1.2 hs.1, ih h.2 hs.2⟩
def sxArgs : Nat → List sxV → sxL
  | _, [] => []
  | i, v :: vs => (i, v) :: sxArgs (if sxCat v = 2 then i + 2 else i + 1) vs
theorem sxSR_args {as : List sxV} : ∀ {vs : List Value} (i : Nat), sxSR σ as vs → sxLR σ (sxArgs i as) (lv_args i vs) := by
  induction as with
  | nil => intro vs i h; cases sxSR_n h; exact trivial
  | cons a as ih =>
    intro vs i h
    obtain ⟨v, vs', rfl, h3, h4⟩ := sxSR_c h
    refine ⟨⟨rfl, h3⟩, ?_⟩
    show sxLR σ (sxArgs (if sxCat a = 2 then i + 2 else i + 1) as) (lv_args (if v.category = 2 then i + 2 else i + 1) vs')
    rw [sxVR_cat h3]
    exact ih _ h4
def sxScA (n : Nat) (ls : sxL) (st : List sxV) : Bool := decide (n + 0 < mjS0) && ls.all (fun q => sxSc n q.2) && st.all (sxSc n)
theorem sxScA_ok {n : Nat} {ls : sxL} {st : List sxV} {cl : mjL} {cs : List Value} (h1 : sxLR σ ls cl) (h2 : sxSR σ st cs) (h : sxScA n ls st = true) : mjSca n 0 cl cs = true := by
  simp only [sxScA, mjSca, Bool.and_eq_true] at h ⊢
  exact ⟨⟨h.1.1, sxLR_sc h1 h.1.2⟩, sxSR_sc h2 h.2⟩
end SXLS

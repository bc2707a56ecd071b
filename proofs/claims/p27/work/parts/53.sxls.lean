/-! SX: locals, stack -/
noncomputable section SXLS
theorem bltOk {a b : Nat} (h : Nat.blt a b = true) : a < b := Nat.le_of_ble_eq_true h
def sxK : sxV → Nat
  | .inr (false, _) => 0
  | .inr (true, _) => 1
  | .inl _ => 2
def sxCat : sxV → Nat
  | .inl _ => 1
  | .inr (false, _) => 1
  | .inr (true, _) => 2
def sxSc (n : Nat) : sxV → Bool
  | .inl r => mjSc n (.ref r)
  | .inr _ => true
theorem sxVR_cat {σ : List Int} {a : sxV} {v : Value} (h : sxVR σ a v) : v.category = sxCat a := by
  match a, h with
  | .inl w, h => cases (show v = .ref w from h); rfl
  | .inr (false, n), h => obtain ⟨x, rfl, -⟩ := h; rfl
  | .inr (true, n), h => obtain ⟨x, rfl, -⟩ := h; rfl
theorem sxVR_sc {σ : List Int} {a : sxV} {v : Value} {n : Nat} (h : sxVR σ a v) (hs : sxSc n a = true) : mjSc n v = true := by
  match a, h with
  | .inl w, h => cases (show v = .ref w from h); exact hs
  | .inr (false, _), h => obtain ⟨x, rfl, -⟩ := h; rfl
  | .inr (true, _), h => obtain ⟨x, rfl, -⟩ := h; rfl
theorem sxK0 {σ : List Int} {a : sxV} {v : Value} (h : sxVR σ a v) (hk : sxK a = 0) : ∃ x n, a = .inr (false, n) ∧ v = .int x ∧ sxNR σ n x.toInt := by
  match a, h with
  | .inl w, h => cases hk
  | .inr (false, n), h => obtain ⟨x, e, h⟩ := h; exact ⟨x, n, rfl, e, h⟩
  | .inr (true, n), h => cases hk
theorem sxK1 {σ : List Int} {a : sxV} {v : Value} (h : sxVR σ a v) (hk : sxK a = 1) : ∃ x n, a = .inr (true, n) ∧ v = .long x ∧ sxNR σ n x.toInt := by
  match a, h with
  | .inl w, h => cases hk
  | .inr (false, n), h => cases hk
  | .inr (true, n), h => obtain ⟨x, e, h⟩ := h; exact ⟨x, n, rfl, e, h⟩
theorem sxK2 {σ : List Int} {a : sxV} {v : Value} (h : sxVR σ a v) (hk : sxK a = 2) : ∃ x, a = .inl x ∧ v = .ref x := by
  match a, h with
  | .inl w, h => exact ⟨w, rfl, h⟩
  | .inr (false, n), h => cases hk
  | .inr (true, n), h => cases hk
def sxSR (σ : List Int) : List sxV → List Value → Prop
  | [], [] => True
  | a :: as, v :: vs => sxVR σ a v ∧ sxSR σ as vs
  | _, _ => False
def sxLP (σ : List Int) : sxL → mjL → Prop
  | [], [] => True
  | a :: as, v :: vs => (a.1 = v.1 ∧ sxVR σ a.2 v.2) ∧ sxLP σ as vs
  | _, _ => False
def sxGt : sxL → Nat → Option sxV
  | [], _ => none
  | q :: r, i => match Nat.beq q.1 i with | true => some q.2 | false => sxGt r i
/-- what is known of the locals; all of them are in scope -/
def sxLR (n : Nat) (σ : List Int) (ls : sxL) (cl : mjL) : Prop := (∀ (i : Nat) (a : sxV), sxGt ls i = some a → ∃ v, mjGet cl i = some v ∧ sxVR σ a v) ∧ ∀ q ∈ cl, mjSc n q.2 = true
variable {σ σ' : List Int}
theorem sxSR.up (hu : sxUp σ σ') : ∀ {as : List sxV} {vs : List Value}, sxSR σ as vs → sxSR σ' as vs
  | [], [], _ => trivial
  | _ :: _, _ :: _, h => ⟨h.1.up hu, sxSR.up hu h.2⟩
  | [], _ :: _, h => h.elim
  | _ :: _, [], h => h.elim
theorem sxLR.up {n : Nat} (hu : sxUp σ σ') {as : sxL} {vs : mjL} (h : sxLR n σ as vs) : sxLR n σ' as vs := ⟨fun i a ha => by
  obtain ⟨v, h1, h2⟩ := h.1 i a ha
  exact ⟨v, h1, h2.up hu⟩, h.2⟩
theorem sxSR.cons {a : sxV} {v : Value} {as : List sxV} {vs : List Value} (h1 : sxVR σ a v) (h2 : sxSR σ as vs) : sxSR σ (a :: as) (v :: vs) := ⟨h1, h2⟩
theorem sxSR_c {a : sxV} {as : List sxV} {vs : List Value} (h : sxSR σ (a :: as) vs) : ∃ v vs', vs = v :: vs' ∧ sxVR σ a v ∧ sxSR σ as vs' := by
  cases vs with
  | nil => exact h.elim
  | cons v vs' => exact ⟨v, vs', rfl, h.1, h.2⟩
theorem sxSR_n {vs : List Value} (h : sxSR σ [] vs) : vs = [] := by
  cases vs with
  | nil => rfl
  | cons v vs' => exact h.elim
theorem sxSR_app {as bs : List sxV} : ∀ {vs ws : List Value}, sxSR σ as vs → sxSR σ bs ws → sxSR σ (as ++ bs) (vs ++ ws) := by
  induction as with
  | nil => intro vs ws h1 h2; cases sxSR_n h1; exact h2
  | cons a as ih =>
    intro vs ws h1 h2
    obtain ⟨v, vs', rfl, h3, h4⟩ := sxSR_c h1
    exact ⟨h3, ih h4 h2⟩
theorem sxSR_len {as : List sxV} : ∀ {vs : List Value}, sxSR σ as vs → vs.length = as.length := by
  induction as with
  | nil => intro vs h; cases sxSR_n h; rfl
  | cons a as ih =>
    intro vs h
    obtain ⟨v, vs', rfl, -, h4⟩ := sxSR_c h
    simp [ih h4]
theorem sxSR_split {as : List sxV} : ∀ {vs : List Value} (n : Nat), sxSR σ as vs → sxSR σ (as.take n) (vs.take n) ∧ sxSR σ (as.drop n) (vs.drop n) := by
  induction as with
  | nil => intro vs n h; cases sxSR_n h; simp [sxSR]
  | cons a as ih =>
    intro vs n h
    obtain ⟨v, vs', rfl, h3, h4⟩ := sxSR_c h
    cases n with
    | zero => exact ⟨trivial, h3, h4⟩
    | succ n => exact ⟨⟨h3, (ih n h4).1⟩, (ih n h4).2⟩
theorem sxSR_rev {as : List sxV} : ∀ {vs : List Value}, sxSR σ as vs → sxSR σ as.reverse vs.reverse := by
  induction as with
  | nil => intro vs h; cases sxSR_n h; exact trivial
  | cons a as ih =>
    intro vs h
    obtain ⟨v, vs', rfl, h3, h4⟩ := sxSR_c h
    rw [List.reverse_cons, List.reverse_cons]
    exact sxSR_app (ih h4) ⟨h3, trivial⟩
theorem sxSR_cat {as : List sxV} : ∀ {vs : List Value}, sxSR σ as vs → vs.map (fun v => v.category) = as.map sxCat := by
  induction as with
  | nil => intro vs h; cases sxSR_n h; rfl
  | cons a as ih =>
    intro vs h
    obtain ⟨v, vs', rfl, h3, h4⟩ := sxSR_c h
    rw [List.map_cons, List.map_cons, ih h4, sxVR_cat h3]
theorem sxSR_sc {n : Nat} {as : List sxV} : ∀ {vs : List Value}, sxSR σ as vs → as.all (sxSc n) = true → vs.all (mjSc n) = true := by
  induction as with
  | nil => intro vs h _; cases sxSR_n h; rfl
  | cons a as ih =>
    intro vs h hs
    obtain ⟨v, vs', rfl, h3, h4⟩ := sxSR_c h
    simp only [List.all_cons, Bool.and_eq_true] at hs ⊢
    exact ⟨sxVR_sc h3 hs.1, ih h4 hs.2⟩
theorem sxSR_lg {as : List sxV} : ∀ {vs : List Value}, sxSR σ as vs → (lg_sl vs).length = (as.map sxCat).sum := by
  induction as with
  | nil => intro vs h; cases sxSR_n h; rfl
  | cons a as ih =>
    intro vs h
    obtain ⟨v, vs', rfl, h3, h4⟩ := sxSR_c h
    have e := ih h4
    simp only [lg_sl, List.flatMap_cons, List.length_append, List.map_cons, List.sum_cons] at e ⊢
    rw [e, ← sxVR_cat h3]
    congr 1
    cases v <;> rfl
theorem sxLR_get {n : Nat} {as : sxL} {vs : mjL} {i : Nat} {a : sxV} (h : sxLR n σ as vs) (ha : sxGt as i = some a) : ∃ v, mjGet vs i = some v ∧ sxVR σ a v := h.1 i a ha
def sxRmv (i : Nat) : sxL → sxL
  | [] => []
  | q :: r => match Nat.beq q.1 i with | true => sxRmv i r | false => q :: sxRmv i r
theorem sxRmv_get (i j : Nat) : ∀ as : sxL, sxGt (sxRmv i as) j = if j = i then none else sxGt as j
  | [] => by
    show none = _
    split <;> rfl
  | q :: r => by
    have ih := sxRmv_get i j r
    unfold sxRmv
    split
    · rename_i h1
      have h1 := Nat.eq_of_beq_eq_true h1
      rw [ih]
      split
      · rfl
      · rename_i h2
        simp only [sxGt]
        split
        · rename_i h3
          exact absurd ((Nat.eq_of_beq_eq_true h3).symm.trans h1) h2
        · rfl
    · rename_i h1
      have h1 := Nat.ne_of_beq_eq_false h1
      simp only [sxGt]
      split
      · rename_i h2
        have h2 := Nat.eq_of_beq_eq_true h2
        rw [if_neg (fun h => h1 (h2.trans h))]
      · exact ih
/-- a wide value ahead of a place that is written goes -/
def sxCutL (i : Nat) (as : sxL) : sxL := match i with
  | 0 => as
  | j + 1 => match sxGt as j with
    | some b => (match Nat.beq (sxCat b) 2 with | true => sxRmv j as | false => as)
    | none => as
theorem sxCutL_get {i j : Nat} {as : sxL} {b : sxV} (h : sxGt (sxCutL i as) j = some b) : sxGt as j = some b ∧ ¬ (j + 1 = i ∧ sxCat b = 2) := by
  unfold sxCutL at h
  split at h
  · exact ⟨h, fun q => by omega⟩
  · rename_i k
    split at h
    · rename_i b0 hb0
      split at h
      · rw [sxRmv_get] at h
        split at h
        · cases h
        · rename_i hjk
          exact ⟨h, fun q => hjk (by omega)⟩
      · rename_i hc
        refine ⟨h, fun q => ?_⟩
        have : j = k := by omega
        subst this
        cases hb0.symm.trans h
        rw [q.2] at hc
        cases hc
    · rename_i hn
      refine ⟨h, fun q => ?_⟩
      have : j = k := by omega
      subst this
      rw [hn] at h
      cases h
def sxStO (i : Nat) (v : sxV) (ls : sxL) : sxL := (i, v) :: sxRmv i (sxCutL i ls)
def sxStT (i : Nat) (v : sxV) (ls : sxL) : sxL := (i, v) :: sxRmv (i + 1) (sxRmv i (sxCutL i ls))
def sxDel (j : Nat) (ls : sxL) : sxL := sxRmv j (sxCutL j ls)
theorem mjGet_filter {g : Nat × Value → Bool} {j : Nat} {w : Value} (hg : g (j, w) = true) : ∀ {cl : mjL}, mjGet cl j = some w → mjGet (cl.filter g) j = some w
  | [], h => by cases h
  | q :: r, h => by
    simp only [mjGet] at h
    by_cases hq : q.1 = j
    · rw [if_pos (by simp [hq])] at h
      cases h
      have : g q = true := by rw [← hg, ← hq]
      rw [List.filter_cons, if_pos this]
      simp only [mjGet]
      rw [if_pos (by simp [hq])]
    · rw [if_neg (by simp [hq])] at h
      rw [List.filter_cons]
      split
      · simp only [mjGet]
        rw [if_neg (by simp [hq])]
        exact mjGet_filter hg h
      · exact mjGet_filter hg h
theorem sxLR_del {n j : Nat} {as : sxL} {vs : mjL} (h : sxLR n σ as vs) : sxLR n σ (sxDel j as) (mjDel j vs) := by
  refine ⟨fun i a ha => ?_, fun q hq => h.2 q (List.mem_filter.mp hq).1⟩
  unfold sxDel at ha
  rw [sxRmv_get] at ha
  split at ha
  · cases ha
  · rename_i hij
    obtain ⟨h1, h2⟩ := sxCutL_get ha
    obtain ⟨v, h3, h4⟩ := h.1 i a h1
    refine ⟨v, mjGet_filter ?_ h3, h4⟩
    rw [← sxVR_cat h4] at h2
    simp only [Bool.and_eq_true, Bool.not_eq_true', beq_eq_false_iff_ne, Bool.and_eq_false_imp, beq_iff_eq]
    exact ⟨hij, fun e1 e2 => h2 ⟨e1, e2⟩⟩
theorem sxLR_st {n i : Nat} {a : sxV} {v : Value} {as : sxL} {vs : mjL} (h : sxLR n σ as vs) (ha : sxVR σ a v) (hv : mjSc n v = true) : sxLR n σ (sxStO i a as) (mjSt i v vs) := by
  have hd := sxLR_del (j := i) h
  refine ⟨fun j b hb => ?_, fun q hq => ?_⟩
  · simp only [sxStO, sxGt] at hb
    simp only [mjSt, mjGet]
    split at hb
    · rename_i e
      have e := Nat.eq_of_beq_eq_true e
      cases hb
      exact ⟨v, by rw [if_pos (by simp [e])], ha⟩
    · rename_i e
      have e := Nat.ne_of_beq_eq_false e
      rw [if_neg (by simp [e])]
      exact hd.1 j b hb
  · rcases List.mem_cons.mp hq with rfl | hq
    · exact hv
    · exact h.2 q (List.mem_filter.mp hq).1
theorem sxLR_st2 {n i : Nat} {a : sxV} {v : Value} {as : sxL} {vs : mjL} (h : sxLR n σ as vs) (ha : sxVR σ a v) (hv : mjSc n v = true) : sxLR n σ (sxStT i a as) (mjSt2 i v vs) := by
  refine ⟨fun j b hb => ?_, fun q hq => ?_⟩
  · simp only [sxStT, sxGt] at hb
    simp only [mjSt2, mjGet]
    split at hb
    · rename_i e
      have e := Nat.eq_of_beq_eq_true e
      cases hb
      exact ⟨v, by rw [if_pos (by simp [e])], ha⟩
    · rename_i e
      have e := Nat.ne_of_beq_eq_false e
      rw [if_neg (by simp [e])]
      rw [sxRmv_get] at hb
      split at hb
      · cases hb
      · rename_i e1
        rw [sxRmv_get] at hb
        split at hb
        · cases hb
        · rename_i e2
          obtain ⟨h1, h2⟩ := sxCutL_get hb
          obtain ⟨w, h3, h4⟩ := h.1 j b h1
          refine ⟨w, mjGet_filter ?_ h3, h4⟩
          rw [← sxVR_cat h4] at h2
          simp only [Bool.and_eq_true, Bool.not_eq_true', beq_eq_false_iff_ne, Bool.and_eq_false_imp, beq_iff_eq]
          exact ⟨e2, e1, fun e3 e4 => h2 ⟨e3, e4⟩⟩
  · rcases List.mem_cons.mp hq with rfl | hq
    · exact hv
    · exact h.2 q (List.mem_filter.mp hq).1
def sxArgs : Nat → List sxV → sxL
  | _, [] => []
  | i, v :: vs => (i, v) :: sxArgs (if sxCat v = 2 then i + 2 else i + 1) vs
theorem sxSR_args {as : List sxV} : ∀ {vs : List Value} (i : Nat), sxSR σ as vs → sxLP σ (sxArgs i as) (lv_args i vs) := by
  induction as with
  | nil => intro vs i h; cases sxSR_n h; exact trivial
  | cons a as ih =>
    intro vs i h
    obtain ⟨v, vs', rfl, h3, h4⟩ := sxSR_c h
    refine ⟨⟨rfl, h3⟩, ?_⟩
    show sxLP σ (sxArgs (if sxCat a = 2 then i + 2 else i + 1) as) (lv_args (if v.category = 2 then i + 2 else i + 1) vs')
    rw [sxVR_cat h3]
    exact ih _ h4
theorem sxLP_get : ∀ {as : sxL} {vs : mjL} {i : Nat} {a : sxV}, sxLP σ as vs → sxGt as i = some a → ∃ v, mjGet vs i = some v ∧ sxVR σ a v
  | [], _, _, _, _, h => by cases h
  | q :: r, [], _, _, h1, _ => h1.elim
  | q :: r, w :: ws, i, a, h1, h2 => by
    obtain ⟨⟨e, h3⟩, h4⟩ := h1
    simp only [sxGt] at h2
    simp only [mjGet, ← e]
    split at h2
    · rename_i hb
      have hq : q.1 = i := Nat.eq_of_beq_eq_true hb
      rw [if_pos (by simp [hq])]
      cases h2
      exact ⟨_, rfl, h3⟩
    · rename_i hb
      have hq : ¬ q.1 = i := Nat.ne_of_beq_eq_false hb
      rw [if_neg (by simp [hq])]
      exact sxLP_get h4 h2
theorem lv_args_all {f : Value → Bool} : ∀ {vs : List Value} {i : Nat}, vs.all f = true → ∀ q ∈ lv_args i vs, f q.2 = true
  | [], _, _, q, hq => by cases hq
  | v :: vs, i, h, q, hq => by
    simp only [List.all_cons, Bool.and_eq_true] at h
    rcases List.mem_cons.mp hq with rfl | hq
    · exact h.1
    · exact lv_args_all h.2 q hq
theorem sxSR_argsR {n : Nat} {as : List sxV} {vs : List Value} (h : sxSR σ as vs) (hs : as.all (sxSc n) = true) : sxLR n σ (sxArgs 0 as) (lv_args 0 vs) :=
  ⟨fun _ _ ha => sxLP_get (sxSR_args 0 h) ha, lv_args_all (sxSR_sc h hs)⟩
def sxScA (n : Nat) (st : List sxV) : Bool := match Nat.blt n mjS0 with | true => st.all (sxSc n) | false => false
theorem sxScA_ok {n : Nat} {ls : sxL} {st : List sxV} {cl : mjL} {cs : List Value} (h1 : sxLR n σ ls cl) (h2 : sxSR σ st cs) (h : sxScA n st = true) : mjSca n 0 cl cs = true := by
  unfold sxScA at h
  split at h
  · rename_i e
    have e : n < mjS0 := bltOk e
    simp only [mjSca, Bool.and_eq_true, decide_eq_true_eq]
    exact ⟨⟨by omega, List.all_eq_true.mpr h1.2⟩, sxSR_sc h2 h⟩
  · cases h
end SXLS

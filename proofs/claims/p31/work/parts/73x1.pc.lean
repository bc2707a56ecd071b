/-! PC: what a run comes to that ends: the heap's places as numbers -/
section PCHEAP
def gI (H : mjH) (i j : Nat) : Int32 := match sxEl H i j with | some (.int x) => x | _ => 0
def gL (H : mjH) (i j : Nat) : Int64 := match sxEl H i j with | some (.long x) => x | _ => 0
def gR (H : mjH) (i j : Nat) : Nat := match sxEl H i j with | some (.ref x) => x | _ => 0
def pV (H : mjH) (i j : Nat) (v : Value) : mjH := match H[i]? with | some e => H.set i (e.1, e.2.set j v) | none => H
variable {H : mjH} {i j a b n t : Nat} {v : Value}
theorem pV_len : (pV H i j v).length = H.length := by
  unfold pV
  split
  · rw [List.length_set]
  · rfl
theorem pV_get (h : a ≠ i) : (pV H i j v)[a]? = H[a]? := by
  unfold pV
  split
  · rw [List.getElem?_set_ne (Ne.symm h)]
  · rfl
theorem pV_at {e : mjE} (h : H[i]? = some e) : (pV H i j v)[i]? = some (e.1, e.2.set j v) := by
  unfold pV
  rw [h]
  exact List.getElem?_set_self (List.getElem?_eq_some_iff.mp h).1
theorem sxEl_ne (h : ¬ (a = i ∧ b = j)) : sxEl (pV H i j v) a b = sxEl H a b := by
  unfold sxEl
  by_cases ha : a = i
  · subst ha
    cases e : H[a]? with
    | none => rw [show pV H a j v = H by unfold pV; rw [e], e]
    | some e0 =>
      rw [pV_at e]
      dsimp only
      rw [List.getElem?_set_ne (fun g => h ⟨rfl, g.symm⟩)]
  · rw [pV_get ha]
theorem sxEl_at {w : Value} (h : sxEl H i j = some w) : sxEl (pV H i j v) i j = some v := by
  unfold sxEl at h ⊢
  cases e : H[i]? with
  | none =>
    rw [e] at h
    cases h
  | some e0 =>
    rw [e] at h
    rw [pV_at e]
    dsimp only at h ⊢
    exact List.getElem?_set_self (List.getElem?_eq_some_iff.mp h).1
theorem gI_ne (h : ¬ (a = i ∧ b = j)) : gI (pV H i j v) a b = gI H a b := by
  unfold gI
  rw [sxEl_ne h]
theorem gL_ne (h : ¬ (a = i ∧ b = j)) : gL (pV H i j v) a b = gL H a b := by
  unfold gL
  rw [sxEl_ne h]
theorem gR_ne (h : ¬ (a = i ∧ b = j)) : gR (pV H i j v) a b = gR H a b := by
  unfold gR
  rw [sxEl_ne h]
theorem gI_cgE {H1 : mjH} (h : sxEl H1 i j = sxEl H i j) : gI H1 i j = gI H i j := by
  unfold gI
  rw [h]
theorem gL_cgE {H1 : mjH} (h : sxEl H1 i j = sxEl H i j) : gL H1 i j = gL H i j := by
  unfold gL
  rw [h]
theorem gI_el {x : Int32} (h : sxEl H i j = some (.int x)) : gI H i j = x := by
  unfold gI
  rw [h]
theorem gL_el {x : Int64} (h : sxEl H i j = some (.long x)) : gL H i j = x := by
  unfold gL
  rw [h]
theorem gR_el {x : Nat} (h : sxEl H i j = some (.ref x)) : gR H i j = x := by
  unfold gR
  rw [h]
/-- what holds of a place, but for its range -/
def exP : sxP → Value → Prop
  | .inl rs, v => ∃ n ∈ rs, v = .ref n
  | .inr (false, _), v => ∃ x : Int32, v = .int x
  | .inr (true, _), v => ∃ x : Int64, v = .long x
theorem exP_of {p : sxP} (h : sxPR p v) : exP p v := by
  match p, h with
  | .inl _, h => exact h
  | .inr (false, _, _), ⟨x, h, _⟩ => exact ⟨x, h⟩
  | .inr (true, _, _), ⟨x, h, _⟩ => exact ⟨x, h⟩
def exC (c : sxCl) (e : mjE) : Prop := (c.1 = e.1 ∧ c.2.1 = e.2.length) ∧ ∀ (j : Nat) (v : Value), e.2[j]? = some v → (∀ p, c.2.2.1 = some p → exP p v) ∧ ∀ p, aNth c.2.2.2 j = some p → exP p v
/-- all stands in its place, of its kind -/
def HT (H : mjH) : Prop := H.length = 579 ∧ ∀ (i : Nat) (c : sxCl), aGet2 sxKw.1 i = some c → i < 579 → ∃ e, H[i]? = some e ∧ exC c e
theorem HT_of (h : sxHR sxKw H) : HT H := by
  refine ⟨h.1, fun i c hc hi => ?_⟩
  obtain ⟨e, h1, h2, h3⟩ := h.2 i c hc hi
  exact ⟨e, h1, h2, fun j v hv => ⟨fun p hp => exP_of ((h3 j v hv).1 p hp), fun p hp => exP_of ((h3 j v hv).2 p hp)⟩⟩
/-- a cell that is a row of numbers -/
noncomputable def kA (i t n : Nat) (b : Bool) : Bool := match aGet2 sxKw.1 i with
  | some c => (Nat.blt i 579 && (Nat.beq c.1 t && Nat.beq c.2.1 n)) && ((match c.2.2.1 with | some (.inr (b2, _)) => bEq b2 b | _ => false) && c.2.2.2.all (fun p => match p with | .inr (b2, _) => bEq b2 b | _ => false))
  | none => false
/-- a cell's field that is a number -/
noncomputable def kF (i j t : Nat) (b : Bool) : Bool := match aGet2 sxKw.1 i with
  | some c => (Nat.blt i 579 && (Nat.beq c.1 t && Nat.blt j c.2.1)) && ((match aNth c.2.2.2 j with | some (.inr (b2, _)) => bEq b2 b | _ => false) && (match c.2.2.1 with | none => true | _ => false))
  | none => false
/-- a cell's field that names one of these -/
noncomputable def kR (i j t : Nat) (rs : List Nat) : Bool := match aGet2 sxKw.1 i with
  | some c => (Nat.blt i 579 && (Nat.beq c.1 t && Nat.blt j c.2.1)) && ((match aNth c.2.2.2 j with | some (.inl ss) => decide (ss = rs) | _ => false) && (match c.2.2.1 with | none => true | _ => false))
  | none => false
theorem kA_c {b : Bool} (h : kA i t n b = true) : ∃ c lo, aGet2 sxKw.1 i = some c ∧ i < 579 ∧ c.1 = t ∧ c.2.1 = n ∧ c.2.2.1 = some (.inr (b, lo)) ∧ ∀ p ∈ c.2.2.2, ∃ lo2, p = .inr (b, lo2) := by
  unfold kA at h
  split at h
  · rename_i c hc
    simp only [Bool.and_eq_true] at h
    obtain ⟨⟨h1, h2, h3⟩, h4, h5⟩ := h
    split at h4
    · rename_i b2 lo e
      refine ⟨c, lo, hc, bltOk h1, beqOk h2, beqOk h3, by rw [e, bEq_ok h4], fun p hp => ?_⟩
      have h6 := List.all_eq_true.mp h5 p hp
      split at h6
      · rename_i b3 lo2
        exact ⟨lo2, by rw [bEq_ok h6]⟩
      · cases h6
    · cases h4
  · cases h
theorem kF_c {b : Bool} (h : kF i j t b = true) : ∃ c lo, aGet2 sxKw.1 i = some c ∧ i < 579 ∧ c.1 = t ∧ j < c.2.1 ∧ c.2.2.1 = none ∧ aNth c.2.2.2 j = some (.inr (b, lo)) := by
  unfold kF at h
  split at h
  · rename_i c hc
    simp only [Bool.and_eq_true] at h
    obtain ⟨⟨h1, h2, h3⟩, h4, h5⟩ := h
    split at h4
    · rename_i b2 lo e
      split at h5
      · rename_i e2
        exact ⟨c, lo, hc, bltOk h1, beqOk h2, bltOk h3, e2, by rw [e, bEq_ok h4]⟩
      · cases h5
    · cases h4
  · cases h
theorem kR_c {rs : List Nat} (h : kR i j t rs = true) : ∃ c, aGet2 sxKw.1 i = some c ∧ i < 579 ∧ c.1 = t ∧ j < c.2.1 ∧ c.2.2.1 = none ∧ aNth c.2.2.2 j = some (.inl rs) := by
  unfold kR at h
  split at h
  · rename_i c hc
    simp only [Bool.and_eq_true] at h
    obtain ⟨⟨h1, h2, h3⟩, h4, h5⟩ := h
    split at h4
    · rename_i ss e
      split at h5
      · rename_i e2
        exact ⟨c, hc, bltOk h1, beqOk h2, bltOk h3, e2, by rw [e, of_decide_eq_true h4]⟩
      · cases h5
    · cases h4
  · cases h
theorem aNth_mem {α : Type} {l : List α} {j : Nat} {p : α} (h : aNth l j = some p) : p ∈ l := by
  rw [aNth_eq] at h
  exact List.mem_of_getElem? h
theorem el_of {e : mjE} (h : H[i]? = some e) : sxEl H i j = e.2[j]? := by
  unfold sxEl
  rw [h]
theorem HT.arrI (h : HT H) (hk : kA i t n false = true) : ∃ vs, H[i]? = some (t, vs) ∧ vs.length = n ∧ ∀ j, j < n → vs[j]? = some (.int (gI H i j)) := by
  obtain ⟨c, lo, hc, hi, c1, c2, c3, c4⟩ := kA_c hk
  obtain ⟨⟨t0, vs⟩, e1, ⟨e2, e3⟩, e4⟩ := h.2 i c hc hi
  dsimp only at e2 e3 e4
  refine ⟨vs, by rw [e1, ← e2, c1], by omega, fun j hj => ?_⟩
  have hv : vs[j]? = some vs[j] := List.getElem?_eq_getElem (by omega)
  obtain ⟨x, hx⟩ := (e4 j _ hv).1 _ c3
  rw [hv, hx, gI_el ((el_of e1).trans (hv.trans (congrArg some hx)))]
theorem HT.arrL (h : HT H) (hk : kA i t n true = true) : ∃ vs, H[i]? = some (t, vs) ∧ vs.length = n ∧ ∀ j, j < n → vs[j]? = some (.long (gL H i j)) := by
  obtain ⟨c, lo, hc, hi, c1, c2, c3, c4⟩ := kA_c hk
  obtain ⟨⟨t0, vs⟩, e1, ⟨e2, e3⟩, e4⟩ := h.2 i c hc hi
  dsimp only at e2 e3 e4
  refine ⟨vs, by rw [e1, ← e2, c1], by omega, fun j hj => ?_⟩
  have hv : vs[j]? = some vs[j] := List.getElem?_eq_getElem (by omega)
  obtain ⟨x, hx⟩ := (e4 j _ hv).1 _ c3
  rw [hv, hx, gL_el ((el_of e1).trans (hv.trans (congrArg some hx)))]
theorem HT.fldI (h : HT H) (hk : kF i j t false = true) : ∃ vs, H[i]? = some (t, vs) ∧ j < vs.length ∧ vs[j]? = some (.int (gI H i j)) := by
  obtain ⟨c, lo, hc, hi, c1, c2, c3, c4⟩ := kF_c hk
  obtain ⟨⟨t0, vs⟩, e1, ⟨e2, e3⟩, e4⟩ := h.2 i c hc hi
  dsimp only at e2 e3 e4
  have hj : j < vs.length := by omega
  refine ⟨vs, by rw [e1, ← e2, c1], hj, ?_⟩
  have hv : vs[j]? = some vs[j] := List.getElem?_eq_getElem hj
  obtain ⟨x, hx⟩ := (e4 j _ hv).2 _ c4
  rw [hv, hx, gI_el ((el_of e1).trans (hv.trans (congrArg some hx)))]
theorem HT.fldL (h : HT H) (hk : kF i j t true = true) : ∃ vs, H[i]? = some (t, vs) ∧ j < vs.length ∧ vs[j]? = some (.long (gL H i j)) := by
  obtain ⟨c, lo, hc, hi, c1, c2, c3, c4⟩ := kF_c hk
  obtain ⟨⟨t0, vs⟩, e1, ⟨e2, e3⟩, e4⟩ := h.2 i c hc hi
  dsimp only at e2 e3 e4
  have hj : j < vs.length := by omega
  refine ⟨vs, by rw [e1, ← e2, c1], hj, ?_⟩
  have hv : vs[j]? = some vs[j] := List.getElem?_eq_getElem hj
  obtain ⟨x, hx⟩ := (e4 j _ hv).2 _ c4
  rw [hv, hx, gL_el ((el_of e1).trans (hv.trans (congrArg some hx)))]
theorem HT.fldR {rs : List Nat} (h : HT H) (hk : kR i j t rs = true) : ∃ vs, H[i]? = some (t, vs) ∧ j < vs.length ∧ vs[j]? = some (.ref (gR H i j)) ∧ gR H i j ∈ rs := by
  obtain ⟨c, hc, hi, c1, c2, c3, c4⟩ := kR_c hk
  obtain ⟨⟨t0, vs⟩, e1, ⟨e2, e3⟩, e4⟩ := h.2 i c hc hi
  dsimp only at e2 e3 e4
  have hj : j < vs.length := by omega
  refine ⟨vs, by rw [e1, ← e2, c1], hj, ?_⟩
  have hv : vs[j]? = some vs[j] := List.getElem?_eq_getElem hj
  obtain ⟨x, hm, hx⟩ := (e4 j _ hv).2 _ c4
  have e := gR_el ((el_of e1).trans (hv.trans (congrArg some hx)))
  rw [hv, hx, e]
  exact ⟨rfl, hm⟩
theorem exC_set {c : sxCl} {e : mjE} (h : exC c e) (h1 : ∀ p, c.2.2.1 = some p → exP p v) (h2 : ∀ p, aNth c.2.2.2 j = some p → exP p v) : exC c (e.1, e.2.set j v) := by
  refine ⟨⟨h.1.1, by rw [List.length_set]; exact h.1.2⟩, fun k w hw => ?_⟩
  by_cases hk : j = k
  · subst hk
    have hl := (List.getElem?_eq_some_iff.mp hw).1
    rw [List.length_set] at hl
    have hw : (e.2.set j v)[j]? = some w := hw
    rw [List.getElem?_set_self hl] at hw
    cases hw
    exact ⟨h1, h2⟩
  · have hw : (e.2.set j v)[k]? = some w := hw
    rw [List.getElem?_set_ne hk] at hw
    exact h.2 k w hw
theorem HT.put (h : HT H) {c : sxCl} (hc : aGet2 sxKw.1 i = some c) (h1 : ∀ p, c.2.2.1 = some p → exP p v) (h2 : ∀ p, aNth c.2.2.2 j = some p → exP p v) : HT (pV H i j v) := by
  refine ⟨pV_len.trans h.1, fun k d hd hk => ?_⟩
  obtain ⟨e, e1, e2⟩ := h.2 k d hd hk
  by_cases hki : k = i
  · subst hki
    cases hc.symm.trans hd
    exact ⟨_, pV_at e1, exC_set e2 h1 h2⟩
  · exact ⟨e, (pV_get hki).trans e1, e2⟩
theorem HT.pI (h : HT H) (hk : kA i t n false = true) {x : Int32} : HT (pV H i j (.int x)) := by
  obtain ⟨c, lo, hc, hi, c1, c2, c3, c4⟩ := kA_c hk
  refine h.put hc (fun p hp => ?_) (fun p hp => ?_)
  · cases c3.symm.trans hp
    exact ⟨x, rfl⟩
  · obtain ⟨lo2, e⟩ := c4 p (aNth_mem hp)
    rw [e]
    exact ⟨x, rfl⟩
theorem HT.pL (h : HT H) (hk : kA i t n true = true) {x : Int64} : HT (pV H i j (.long x)) := by
  obtain ⟨c, lo, hc, hi, c1, c2, c3, c4⟩ := kA_c hk
  refine h.put hc (fun p hp => ?_) (fun p hp => ?_)
  · cases c3.symm.trans hp
    exact ⟨x, rfl⟩
  · obtain ⟨lo2, e⟩ := c4 p (aNth_mem hp)
    rw [e]
    exact ⟨x, rfl⟩
theorem HT.pFI (h : HT H) (hk : kF i j t false = true) {x : Int32} : HT (pV H i j (.int x)) := by
  obtain ⟨c, lo, hc, hi, c1, c2, c3, c4⟩ := kF_c hk
  refine h.put hc (fun p hp => ?_) (fun p hp => ?_)
  · rw [c3] at hp
    cases hp
  · cases c4.symm.trans hp
    exact ⟨x, rfl⟩
theorem HT.pFL (h : HT H) (hk : kF i j t true = true) {x : Int64} : HT (pV H i j (.long x)) := by
  obtain ⟨c, lo, hc, hi, c1, c2, c3, c4⟩ := kF_c hk
  refine h.put hc (fun p hp => ?_) (fun p hp => ?_)
  · rw [c3] at hp
    cases hp
  · cases c4.symm.trans hp
    exact ⟨x, rfl⟩
theorem HT.pFR {rs : List Nat} (h : HT H) (hk : kR i j t rs = true) {x : Nat} (hx : x ∈ rs) : HT (pV H i j (.ref x)) := by
  obtain ⟨c, hc, hi, c1, c2, c3, c4⟩ := kR_c hk
  refine h.put hc (fun p hp => ?_) (fun p hp => ?_)
  · rw [c3] at hp
    cases hp
  · cases c4.symm.trans hp
    exact ⟨x, hx, rfl⟩
theorem gI_at (h : HT H) (hk : kA i t n false = true) (hj : j < n) {x : Int32} : gI (pV H i j (.int x)) i j = x := by
  obtain ⟨vs, e1, e2, e3⟩ := h.arrI hk
  exact gI_el (sxEl_at ((el_of e1).trans (e3 j hj)))
theorem gL_at (h : HT H) (hk : kA i t n true = true) (hj : j < n) {x : Int64} : gL (pV H i j (.long x)) i j = x := by
  obtain ⟨vs, e1, e2, e3⟩ := h.arrL hk
  exact gL_el (sxEl_at ((el_of e1).trans (e3 j hj)))
theorem gI_fat (h : HT H) (hk : kF i j t false = true) {x : Int32} : gI (pV H i j (.int x)) i j = x := by
  obtain ⟨vs, e1, e2, e3⟩ := h.fldI hk
  exact gI_el (sxEl_at ((el_of e1).trans e3))
theorem gL_fat (h : HT H) (hk : kF i j t true = true) {x : Int64} : gL (pV H i j (.long x)) i j = x := by
  obtain ⟨vs, e1, e2, e3⟩ := h.fldL hk
  exact gL_el (sxEl_at ((el_of e1).trans e3))
theorem gR_fat {rs : List Nat} (h : HT H) (hk : kR i j t rs = true) {x : Nat} : gR (pV H i j (.ref x)) i j = x := by
  obtain ⟨vs, e1, e2, e3, -⟩ := h.fldR hk
  exact gR_el (sxEl_at ((el_of e1).trans e3))
/-- a row of rows -/
noncomputable def kRow (i t n base : Nat) : Bool := match aGet2 sxKw.1 i with
  | some c => (Nat.blt i 579 && (Nat.beq c.1 t && Nat.beq c.2.1 n)) && (List.range n).all (fun j => match aNth c.2.2.2 j with | some (.inl ss) => decide (ss = [base + j]) | _ => false)
  | none => false
theorem HT.row {base : Nat} (h : HT H) (hk : kRow i t n base = true) : ∃ vs, H[i]? = some (t, vs) ∧ vs.length = n ∧ ∀ j, j < n → vs[j]? = some (.ref (base + j)) := by
  unfold kRow at hk
  split at hk
  · rename_i c hc
    simp only [Bool.and_eq_true] at hk
    obtain ⟨⟨h1, h2, h3⟩, h4⟩ := hk
    obtain ⟨⟨t0, vs⟩, e1, ⟨e2, e3⟩, e4⟩ := h.2 i c hc (bltOk h1)
    have h2 := beqOk h2
    have h3 := beqOk h3
    dsimp only at e2 e3 e4
    refine ⟨vs, by rw [e1, ← e2, h2], by omega, fun j hj => ?_⟩
    have hv : vs[j]? = some vs[j] := List.getElem?_eq_getElem (by omega)
    have h5 := List.all_eq_true.mp h4 j (List.mem_range.mpr hj)
    split at h5
    · rename_i ss e
      have h5 := of_decide_eq_true h5
      rw [h5] at e
      obtain ⟨x, hm, hx⟩ := (e4 j _ hv).2 _ e
      rw [hv, hx, List.mem_singleton.mp hm]
    · cases h5
  · cases hk
end PCHEAP

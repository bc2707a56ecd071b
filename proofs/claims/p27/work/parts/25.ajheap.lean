/-! AJ: the heap, in chunks -/
section AJHEAP
def aNth {α : Type} : List α → Nat → Option α
  | [], _ => none
  | a :: l, n => match n with | 0 => some a | m + 1 => aNth l m
theorem aNth_eq {α : Type} : ∀ (l : List α) (n : Nat), aNth l n = l[n]?
  | [], n => by simp [aNth]
  | a :: l, 0 => rfl
  | a :: l, n + 1 => by
    rw [List.getElem?_cons_succ, ← aNth_eq l n]
    rfl
def aGet2 {α : Type} (l : List (List α)) (i : Nat) : Option α := match aNth l (i / 32) with
  | some c => aNth c (i % 32)
  | none => none
def aSet2 {α : Type} (l : List (List α)) (i : Nat) (v : α) : List (List α) := match aNth l (i / 32) with
  | some c => l.set (i / 32) (c.set (i % 32) v)
  | none => l
theorem aGet2_def {α : Type} (l : List (List α)) (i : Nat) : aGet2 l i = match l[i / 32]? with
  | some c => c[i % 32]?
  | none => none := by
  unfold aGet2
  simp only [aNth_eq]
theorem aSet2_def {α : Type} (l : List (List α)) (i : Nat) (v : α) : aSet2 l i v = match l[i / 32]? with
  | some c => l.set (i / 32) (c.set (i % 32) v)
  | none => l := by
  unfold aSet2
  simp only [aNth_eq]
def aPush2 {α : Type} (l : List (List α)) (n : Nat) (v : α) : Option (List (List α)) := if n % 32 = 0 then (if l.length = n / 32 then some (l ++ [[v]]) else none)
  else match l[n / 32]? with
    | some c => if c.length = n % 32 then some (l.set (n / 32) (c ++ [v])) else none
    | none => none
theorem aGet2_set {α : Type} {l : List (List α)} {i : Nat} {w v : α} (h : aGet2 l i = some w) (j : Nat) : aGet2 (aSet2 l i v) j = if j = i then some v else aGet2 l j := by
  rw [aGet2_def] at h
  split at h
  · rename_i c hc
    have hi := (List.getElem?_eq_some_iff.mp hc).1
    have hr := (List.getElem?_eq_some_iff.mp h).1
    rw [aSet2_def, aGet2_def, aGet2_def]
    rw [hc]
    dsimp only
    by_cases hq : j / 32 = i / 32
    · rw [hq, List.getElem?_set_self hi, hc]
      dsimp only
      by_cases hm : j % 32 = i % 32
      · rw [hm, List.getElem?_set_self hr, if_pos (by omega)]
      · rw [List.getElem?_set_ne (Ne.symm hm), if_neg (by omega)]
    · rw [List.getElem?_set_ne (Ne.symm hq), if_neg (by omega)]
  · cases h
theorem aPush2_ok {α : Type} {l l' : List (List α)} {n : Nat} {v : α} (h : aPush2 l n v = some l') : aGet2 l' n = some v ∧ ∀ (j : Nat) (w : α), j < n → aGet2 l j = some w → aGet2 l' j = some w := by
  unfold aPush2 at h
  split at h
  · rename_i h0
    split at h
    · rename_i hl
      cases h
      refine ⟨?_, fun j w hj hw => ?_⟩
      · rw [aGet2_def]
        rw [List.getElem?_append_right (by omega), hl, Nat.sub_self, h0]
        rfl
      · rw [aGet2_def] at hw ⊢
        rw [List.getElem?_append_left (by omega)]
        exact hw
    · cases h
  · rename_i h0
    split at h
    · rename_i c hc
      split at h
      · rename_i hl
        cases h
        have hi := (List.getElem?_eq_some_iff.mp hc).1
        refine ⟨?_, fun j w hj hw => ?_⟩
        · rw [aGet2_def]
          rw [List.getElem?_set_self hi]
          dsimp only
          rw [List.getElem?_append_right (by omega), hl, Nat.sub_self]
          rfl
        · rw [aGet2_def] at hw ⊢
          by_cases hq : j / 32 = n / 32
          · rw [hq, List.getElem?_set_self hi]
            rw [hq, hc] at hw
            dsimp only at hw ⊢
            rw [List.getElem?_append_left (List.getElem?_eq_some_iff.mp hw).1]
            exact hw
          · rw [List.getElem?_set_ne (Ne.symm hq)]
            exact hw
      · cases h
    · cases h
def aChN {α : Type} : Nat → List α → List (List α)
  | 0, _ => []
  | f + 1, l => l.take 32 :: aChN f (l.drop 32)
theorem aChN_get {α : Type} : ∀ (f : Nat) (l : List α) (j : Nat), j < 32 * f → aGet2 (aChN f l) j = l[j]?
  | 0, l, j, h => by omega
  | f + 1, l, j, h => by
    by_cases hj : j < 32
    · rw [aGet2_def]
      unfold aChN
      rw [show j / 32 = 0 by omega, List.getElem?_cons_zero]
      dsimp only
      rw [show j % 32 = j by omega, List.getElem?_take, if_pos hj]
    · have ih := aChN_get f (l.drop 32) (j - 32) (by omega)
      rw [aGet2_def] at ih ⊢
      unfold aChN
      rw [show j / 32 = (j - 32) / 32 + 1 by omega, List.getElem?_cons_succ]
      rw [show j % 32 = (j - 32) % 32 by omega, ih, List.getElem?_drop, show 32 + (j - 32) = j by omega]
def aRep {α : Type} (n : Nat) (v : α) : List (List α) := List.replicate (n / 32 + 1) (List.replicate 32 v)
theorem aRep_get {α : Type} {n j : Nat} {v : α} (h : j < n) : aGet2 (aRep n v) j = some v := by
  rw [aGet2_def]
  unfold aRep
  rw [List.getElem?_replicate, if_pos (by omega)]
  dsimp only
  rw [List.getElem?_replicate, if_pos (by omega)]
abbrev aC : Type := Nat × Nat × List (List aV)
abbrev aH : Type := Nat × List (List aC)
def aCR (c : aC) (e : mjE) : Prop := c.1 = e.1 ∧ c.2.1 = e.2.length ∧ ∀ (j : Nat) (v : Value), e.2[j]? = some v → ∃ a, aGet2 c.2.2 j = some a ∧ aVR a v
def aHR (h : aH) (hp : mjH) : Prop := h.1 = hp.length ∧ ∀ (i : Nat) (e : mjE), hp[i]? = some e → ∃ c, aGet2 h.2 i = some c ∧ aCR c e
def aHget (h : aH) (o : Nat) : Option aC := match Nat.blt o h.1 with | true => aGet2 h.2 o | false => none
def aHset (h : aH) (o : Nat) (c : aC) : aH := (h.1, aSet2 h.2 o c)
def aCget (c : aC) (j : Nat) : Option aV := match Nat.blt j c.2.1 with | true => aGet2 c.2.2 j | false => none
def aCset (c : aC) (j : Nat) (a : aV) : aC := (c.1, c.2.1, aSet2 c.2.2 j a)
theorem aHR.get {h : aH} {hp : mjH} {o : Nat} {c : aC} (hr : aHR h hp) (hg : aHget h o = some c) : ∃ (t : Nat) (vs : List Value), hp[o]? = some (t, vs) ∧ aCR c (t, vs) := by
  unfold aHget at hg
  split at hg
  · rename_i ho
    have ho := Nat.le_of_ble_eq_true ho
    rw [hr.1] at ho
    obtain ⟨c', h1, h2⟩ := hr.2 o hp[o] (List.getElem?_eq_getElem ho)
    rw [h1] at hg
    cases hg
    exact ⟨hp[o].1, hp[o].2, List.getElem?_eq_getElem ho, h2⟩
  · cases hg
theorem aHR.set {h : aH} {hp : mjH} {o : Nat} {c c' : aC} {e' : mjE} (hr : aHR h hp) (hg : aHget h o = some c) (hc : aCR c' e') : aHR (aHset h o c') (hp.set o e') := by
  unfold aHget at hg
  split at hg
  · rename_i ho
    have ho := Nat.le_of_ble_eq_true ho
    rw [hr.1] at ho
    refine ⟨by rw [List.length_set]; exact hr.1, fun i e he => ?_⟩
    show ∃ c, aGet2 (aSet2 h.2 o c') i = some c ∧ aCR c e
    rw [aGet2_set hg]
    by_cases hi : i = o
    · subst hi
      rw [List.getElem?_set_self ho] at he
      cases he
      exact ⟨c', if_pos rfl, hc⟩
    · rw [List.getElem?_set_ne (Ne.symm hi)] at he
      rw [if_neg hi]
      exact hr.2 i e he
  · cases hg
theorem aCR.get {c : aC} {t : Nat} {vs : List Value} {j : Nat} {a : aV} (hr : aCR c (t, vs)) (hg : aCget c j = some a) : ∃ v, vs[j]? = some v ∧ aVR a v := by
  unfold aCget at hg
  split at hg
  · rename_i hj
    have hj : j + 1 ≤ c.2.1 := Nat.le_of_ble_eq_true hj
    have hl : j < vs.length := by have := hr.2.1; dsimp only at this; omega
    obtain ⟨a', h1, h2⟩ := hr.2.2 j vs[j] (List.getElem?_eq_getElem hl)
    rw [h1] at hg
    cases hg
    exact ⟨vs[j], List.getElem?_eq_getElem hl, h2⟩
  · cases hg
theorem aCR.set {c : aC} {t : Nat} {vs : List Value} {j : Nat} {a : aV} {v : Value} (hr : aCR c (t, vs)) (hj : j < c.2.1) (hv : aVR a v) : aCR (aCset c j a) (t, vs.set j v) := by
  have hl : j < vs.length := by have := hr.2.1; dsimp only at this; omega
  obtain ⟨a', h1, -⟩ := hr.2.2 j vs[j] (List.getElem?_eq_getElem hl)
  refine ⟨hr.1, by show c.2.1 = (vs.set j v).length; rw [List.length_set]; exact hr.2.1, fun i w hw => ?_⟩
  show ∃ a1, aGet2 (aSet2 c.2.2 j a) i = some a1 ∧ aVR a1 w
  rw [aGet2_set h1]
  by_cases hi : i = j
  · subst hi
    rw [List.getElem?_set_self hl] at hw
    cases hw
    exact ⟨a, if_pos rfl, hv⟩
  · rw [List.getElem?_set_ne (Ne.symm hi)] at hw
    rw [if_neg hi]
    exact hr.2.2 i w hw
theorem aHR.push {h : aH} {hp : mjH} {c : aC} {e : mjE} {l' : List (List aC)} (hr : aHR h hp) (hpu : aPush2 h.2 h.1 c = some l') (hc : aCR c e) : aHR (h.1 + 1, l') (hp ++ [e]) := by
  obtain ⟨h1, h2⟩ := aPush2_ok hpu
  refine ⟨by rw [List.length_append, ← hr.1]; rfl, fun i e' he => ?_⟩
  by_cases hi : i < hp.length
  · rw [List.getElem?_append_left hi] at he
    obtain ⟨c', h3, h4⟩ := hr.2 i e' he
    exact ⟨c', h2 i c' (by rw [hr.1]; exact hi) h3, h4⟩
  · rw [List.getElem?_append_right (by omega)] at he
    have hlt := (List.getElem?_eq_some_iff.mp he).1
    have h0 : i - hp.length = 0 := by simpa using hlt
    rw [h0] at he
    cases he
    have : i = h.1 := by rw [hr.1]; omega
    exact ⟨c, by rw [this]; exact h1, hc⟩
/-- many -/
def aPushN : Nat → List (List aC) → Nat → aC → Option (List (List aC))
  | 0, l, _, _ => some l
  | m + 1, l, n, c => match aPush2 l n c with
    | some l' => aPushN m l' (n + 1) c
    | none => none
theorem aHR.pushN {c : aC} {e : mjE} (hc : aCR c e) : ∀ (m : Nat) {n : Nat} {l l' : List (List aC)} {hp : mjH}, aHR (n, l) hp → aPushN m l n c = some l' → aHR (n + m, l') (hp ++ List.replicate m e)
  | 0, n, l, l', hp, hr, h => by cases h; simpa using hr
  | m + 1, n, l, l', hp, hr, h => by
    unfold aPushN at h
    split at h
    · rename_i l1 h1
      have := aHR.pushN hc m (hr.push (h := (n, l)) h1 hc) h
      rw [List.append_assoc] at this
      rw [List.replicate_succ, show n + (m + 1) = n + 1 + m by omega]
      exact this
    · cases h
/-- reading at an index known in part: the cells must be alike -/
def aUni (c : aC) (lo n : Nat) : Option aV := match aCget c lo with
  | some (.inl w) => if (List.range (n + 1)).all (fun j => decide (aCget c (lo + j) = some (.inl w))) then some (.inl w) else none
  | _ => none
def aRd (c : aC) (i : aV) : Option aV := match i with
  | .inl (.int k) => if k < 0 then none else aCget c k.toNatClampNeg
  | .inr (false, lo, hi) => if 0 ≤ lo then aUni c lo.toNat (hi - lo).toNat else none
  | _ => none
theorem aRd_ok {c : aC} {t : Nat} {vs : List Value} {i a : aV} {vi : Value} (hr : aCR c (t, vs)) (h : aRd c i = some a) (hi : aVR i vi) : ∃ (k : Int32) (v : Value), vi = .int k ∧ ¬ k < 0 ∧ vs[k.toNatClampNeg]? = some v ∧ aVR a v := by
  unfold aRd at h
  split at h
  · rename_i k
    split at h
    · cases h
    · rename_i hk
      obtain ⟨v, h1, h2⟩ := hr.get h
      exact ⟨k, v, hi, hk, h1, h2⟩
  · rename_i lo hi'
    obtain ⟨k, rfl, h1, h2⟩ := hi
    split at h
    · rename_i hlo
      have hk : ¬ k < 0 := fun q => by
        have := Int32.lt_iff_toInt_lt.mp q
        simp at this
        omega
      unfold aUni at h
      split at h
      · rename_i w hw
        split at h
        · rename_i hall
          cases h
          have hn : k.toNatClampNeg = lo.toNat + (k.toInt.toNat - lo.toNat) := by
            show k.toInt.toNat = _
            omega
          have h3 := List.all_eq_true.mp hall (k.toInt.toNat - lo.toNat) (List.mem_range.mpr (by omega))
          have h4 := of_decide_eq_true h3
          rw [← hn] at h4
          obtain ⟨v, h5, h6⟩ := hr.get h4
          exact ⟨k, v, rfl, hk, h5, h6⟩
        · cases h
      · cases h
    · cases h
  · cases h
/-- the script -/
def aXR : Option (List aV) → Option (List Int32) → Prop
  | none, _ => True
  | some as, some xs => aSR as (xs.map .int)
  | some _, none => False
theorem aSR_get {as : List aV} : ∀ {vs : List Value} {j : Nat} {a : aV}, aSR as vs → as[j]? = some a → ∃ v, vs[j]? = some v ∧ aVR a v := by
  induction as with
  | nil => intro vs j a _ h; cases h
  | cons q r ih =>
    intro vs j a h1 h2
    obtain ⟨v, vs', rfl, h3, h4⟩ := aSR_c h1
    cases j with
    | zero => cases h2; exact ⟨v, rfl, h3⟩
    | succ j =>
      have h5 := ih (vs := vs') (j := j) h4 h2
      exact h5
end AJHEAP

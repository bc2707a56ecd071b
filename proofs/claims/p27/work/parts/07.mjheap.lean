/-! MJ: the heap: what it is, what reading and writing do -/
section MJHEAP
noncomputable def mjGl : List Cond := lw_tbl.filter goodWord
/-- the word at a place of the tables; behind them the 'selects' of the private methods -/
noncomputable def mjW (c : Nat) : Option Cond := match mjWords[c / 256]? with
  | some l => l[c % 256]?
  | none => (lw_privs[c - 256 * mjNT]?).map (fun q => Cond.selects q.1.cls q.1 q.1)
noncomputable def mjIs (c : Nat) (w : Cond) : Bool := decide (mjW c = some w) && goodWord w
theorem mjWords_flat : mjWords.flatten = tables_1 := by
  simp only [mjWords, tables_1, List.flatten_cons, List.flatten_nil, List.append_nil]
theorem mjIs_tbl {c : Nat} {w : Cond} (h : mjIs c w = true) : w ∈ lw_tbl := by
  simp only [mjIs, Bool.and_eq_true, decide_eq_true_eq] at h
  have h := h.1
  unfold mjW at h
  split at h
  · rename_i l hl
    refine List.mem_append_right _ ?_
    rw [← mjWords_flat]
    exact List.mem_flatten.mpr ⟨l, List.mem_of_getElem? hl, List.mem_of_getElem? h⟩
  · cases hq : lw_privs[c - 256 * mjNT]? with
    | none => rw [hq] at h; cases h
    | some q =>
      rw [hq] at h
      cases h
      exact List.mem_append_left _ (List.mem_map.mpr ⟨q, List.mem_of_getElem? hq, rfl⟩)
theorem mjIs_good {c : Nat} {w : Cond} (h : mjIs c w = true) : goodWord w = true := by
  simp only [mjIs, Bool.and_eq_true] at h
  exact h.2
theorem mjIs_in {c : Nat} {w : Cond} (h : mjIs c w = true) : w ∈ mjGl := List.mem_filter.mpr ⟨mjIs_tbl h, mjIs_good h⟩
theorem mjGl_good {w : Cond} (h : w ∈ mjGl) : goodWord w = true := (List.mem_filter.mp h).2
/-- the arrays' types -/
def mjAty (t : Nat) : FieldType := match t with
  | 100 => .int | 101 => .long | 102 => .byte | 103 => .boolean | 104 => .object RX4 | 105 => .object RX7 | _ => .array .int
abbrev mjTys (dT : Nat → ClassId) : List (ClassId × FieldType) := (List.range 7).map (fun t => (dT (100 + t), mjAty (100 + t)))
def mjAt (D : va_G) (dT : Nat → ClassId) (ad : Nat → Nat) (i : Nat) (e : mjE) (H : Heap) : Prop :=
  (e.1 < 100 → ∃ r : vw_C, vwCl[e.1]? = some r ∧ e.2.length = r.2.2 ∧ t_OB (ad i) (D.1 e.1) r.2.2 (D.2 e.1) H (fun k => rl ad (e.2.getD k .null))) ∧
  (100 ≤ e.1 → H[ad i]? = some (arrV (dT e.1) e.2.length (fun j => rl ad (e.2.getD j .null))))
def mjR (D : va_G) (dT : Nat → ClassId) (ad : Nat → Nat) (A : Nat → Prop) (hp : mjH) (H : Heap) : Prop :=
  (∀ (i : Nat) (e : mjE), hp[i]? = some e → mjAt D dT ad i e H) ∧ (∀ i j : Nat, i < hp.length → j < hp.length → ad i = ad j → i = j) ∧ (∀ i : Nat, i < hp.length → A (ad i)) ∧
  (∀ (i : Nat) (e : mjE) (v : Value), hp[i]? = some e → v ∈ e.2 → mjSc hp.length v = true) ∧ hp.length < mjS0
theorem mjAt.kept {D : va_G} {dT : Nat → ClassId} {ad : Nat → Nat} {i : Nat} {e : mjE} {H H1 : Heap} (h : mjAt D dT ad i e H) (hq : H1[ad i]? = H[ad i]?) : mjAt D dT ad i e H1 := by
  refine ⟨fun h1 => ?_, fun h1 => hq.trans (h.2 h1)⟩
  obtain ⟨r, a, b, c⟩ := h.1 h1
  exact ⟨r, a, b, c.kept hq⟩
theorem mjR.kept {D : va_G} {dT : Nat → ClassId} {ad : Nat → Nat} {A : Nat → Prop} {hp : mjH} {H H1 : Heap} (h : mjR D dT ad A hp H) (hq : ∀ i : Nat, i < hp.length → H1[ad i]? = H[ad i]?) : mjR D dT ad A hp H1 :=
  ⟨fun i e hi => (h.1 i e hi).kept (hq i (List.getElem?_eq_some_iff.mp hi).1), h.2⟩
theorem mjR.set {D : va_G} {dT : Nat → ClassId} {ad : Nat → Nat} {A : Nat → Prop} {hp : mjH} {H H1 : Heap} {o : Nat} {e e' : mjE} (h : mjR D dT ad A hp H) (ho : hp[o]? = some e) (he : mjAt D dT ad o e' H1) (hsc : ∀ v ∈ e'.2, mjSc hp.length v = true) (oq : ∀ q : Nat, q ≠ ad o → H1[q]? = H[q]?) : mjR D dT ad A (hp.set o e') H1 := by
  have hol := (List.getElem?_eq_some_iff.mp ho).1
  obtain ⟨h1, h2, h3, h4, h5⟩ := h
  have key : ∀ (i : Nat) (x : mjE), (hp.set o e')[i]? = some x → (i = o ∧ x = e') ∨ (i ≠ o ∧ hp[i]? = some x) := by
    intro i x hx
    by_cases hi : i = o
    · subst hi
      rw [List.getElem?_set_self hol] at hx
      cases hx
      exact Or.inl ⟨rfl, rfl⟩
    · rw [List.getElem?_set_ne (Ne.symm hi)] at hx
      exact Or.inr ⟨hi, hx⟩
  refine ⟨fun i x hx => ?_, by simpa using h2, by simpa using h3, fun i x v hx hv => ?_, by simpa using h5⟩
  · rcases key i x hx with ⟨rfl, rfl⟩ | ⟨hi, hx⟩
    · exact he
    · exact (h1 i x hx).kept (oq _ (fun z => hi (h2 i o (List.getElem?_eq_some_iff.mp hx).1 hol z)))
  · rw [List.length_set]
    rcases key i x hx with ⟨rfl, rfl⟩ | ⟨hi, hx⟩
    · exact hsc v hv
    · exact h4 i x v hx hv
theorem mj_mem_set {vs : List Value} {b : Nat} {v w : Value} (h : w ∈ vs.set b v) : w ∈ vs ∨ w = v := by
  rcases List.mem_or_eq_of_mem_set h with h | h
  · exact Or.inl h
  · exact Or.inr h
theorem mjOk_spec {ty : FieldType} {n : Nat} {v : Value} {ad : Nat → Nat} (h : mjOk ty n v = true) : narrow ty (rl ad v) = rl ad v ∧ fits ty (rl ad v) = true ∧ mjSc n v = true := by
  cases ty <;> simp only [mjOk] at h
  case int => split at h <;> first | exact ⟨rfl, rfl, rfl⟩ | cases h
  case long => split at h <;> first | exact ⟨rfl, rfl, rfl⟩ | cases h
  case boolean =>
    split at h
    · rename_i x
      simp only [Bool.or_eq_true, beq_iff_eq] at h
      rcases h with rfl | rfl
      · exact ⟨rfl, rfl, rfl⟩
      · exact ⟨rfl, rfl, rfl⟩
    · cases h
  case object => split at h <;> first | exact ⟨rfl, rfl, rfl⟩ | exact ⟨rfl, rfl, h⟩ | cases h
  case array => split at h <;> first | exact ⟨rfl, rfl, rfl⟩ | exact ⟨rfl, rfl, h⟩ | cases h
  all_goals cases h
/-- static facts of a class that has objects -/
noncomputable def mjClB (ci : Nat) : Bool := match vwCl[ci]?, mjCp[ci]?, mjCq[ci]? with
  | some r, some ps, some q => (List.range r.2.2).all (fun k => mjIs (ps.getD k 0) (u_lay r.1 r.2.1 k) && decide (parseFieldDescriptor (r.2.1 k).2.2.1 = some (mjTy ci k))
      && (List.range r.2.2).all (fun j => decide (k = j) || decide ((r.2.1 k).2.1 ≠ (r.2.1 j).2.1))) && mjIs q.1 (.instantiable r.1 r.2.2) && mjIs q.2 (.initialized r.1)
  | _, _, _ => false
set_option maxRecDepth 100000 in
theorem mjClB_ok : (List.range 10).all mjClB = true := by decide +kernel
theorem mj_cls {ci : Nat} {r : vw_C} (h : vwCl[ci]? = some r) : ci < 10 ∧ (∀ w ∈ u_ws r.1 r.2.1 r.2.2, w ∈ mjGl) ∧ (∀ k, k < r.2.2 → parseFieldDescriptor (r.2.1 k).2.2.1 = some (mjTy ci k)) ∧
    (∀ a, a < r.2.2 → ∀ b, b < r.2.2 → a ≠ b → (r.2.1 a).2.1 ≠ (r.2.1 b).2.1) ∧ Cond.instantiable r.1 r.2.2 ∈ mjGl ∧ Cond.initialized r.1 ∈ mjGl := by
  have hl : ci < 10 := (List.getElem?_eq_some_iff.mp h).1
  have hb := List.all_eq_true.mp mjClB_ok ci (List.mem_range.mpr hl)
  unfold mjClB at hb
  rw [h] at hb
  split at hb
  · rename_i r' ps q e1 e2 e3
    cases e1
    simp only [Bool.and_eq_true, List.all_eq_true, List.mem_range, Bool.or_eq_true, decide_eq_true_eq] at hb
    obtain ⟨⟨hb, h8⟩, h9⟩ := hb
    refine ⟨hl, fun w hw => ?_, fun k hk => (hb k hk).1.2, fun a ha b hb' hne => ?_, mjIs_in h8, mjIs_in h9⟩
    · obtain ⟨k, hk, rfl⟩ := List.mem_map.mp hw
      exact mjIs_in (hb k (List.mem_range.mp hk)).1.1
    · exact ((hb a ha).2 b hb').resolve_left hne
  · cases hb
end MJHEAP

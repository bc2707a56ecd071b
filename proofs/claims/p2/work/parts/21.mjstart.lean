/-! MJ: what a law's entry gives -/
section MJSTART
def mjFl : List Cond := flatC (Jvm.Cond.and given_1 narrow_1)
noncomputable def mjNcs : List (String × String) := mjFl.filterMap (fun w => match w with | .not (.castable a b) => some (a, b) | _ => none)
noncomputable def mjNcB (n : Nat) : Bool := (List.range n).all (fun a => (List.range n).all (fun b => decide (a = b) || (match mjEn a, mjEn b with | some E, some F => mjNcs.contains (E, F) | _, _ => false)))
set_option maxRecDepth 100000 in
theorem mjNcB_ok : mjNcB mjEp.length = true := by decide +kernel
theorem mjNcs_mem {E F : String} (h : (E, F) ∈ mjNcs) : Cond.not (.castable E F) ∈ mjFl := by
  obtain ⟨w, hw, he⟩ := List.mem_filterMap.mp h
  split at he
  · cases he
    exact hw
  · cases he
set_option maxRecDepth 100000 in
theorem mjStr_in : mjStr.all (fun l => l.all (fun q => decide (Cond.stringRef q.1 q.2.1 q.2.2 ∈ tables_1))) = true := by decide +kernel
theorem mjStx_in {j : Nat} {o : String} {i : Nat} {tx : String} (h : mjStx j = some (o, i, tx)) : Cond.stringRef o i tx ∈ tables_1 := by
  unfold mjStx at h
  split at h
  · rename_i l hl
    have h1 := List.all_eq_true.mp mjStr_in l (List.mem_of_getElem? hl)
    exact of_decide_eq_true (List.all_eq_true.mp h1 (o, i, tx) (List.mem_of_getElem? h))
  · cases h
theorem mj_arrP {s : State} {args : Array Value} {ty : FieldType} (hn : ∀ C, ty ≠ .object C) (h : (Cond.arrayClass ty).before args s = true) : ∃ cA : ClassId, ArrOfT s cA ty ∧ va_RA s cA ty := by
  obtain ⟨c, k, comp, h1, h2, h3⟩ := Cond.arrayClass_spec h
  refine ⟨c, fun n z => ⟨fun k h => ?_, k, h2, comp, h3⟩, ?_⟩
  · exact absurd h (by intro h; cases h)
  · cases ty <;> first | exact h1 | exact absurd rfl (hn _)
theorem mj_arrO {s : State} {args : Array Value} {C : String} (h : (Cond.arrayOver (.object C)).before args s = true) : ∃ cA : ClassId, ArrOfT s cA (.object C) ∧ va_RA s cA (.object C) := by
  obtain ⟨comp, c, k, h1, -, h2, h3, h4⟩ := Cond.arrayOver_spec h
  exact ⟨c, fun n z => ⟨fun k h => (by cases h), k, h2, comp, h3⟩, k, comp, h2, h3, h1, h4⟩
theorem mj_arrA {s : State} {args : Array Value} {ty : FieldType} (h : (Cond.arrayOver (.array ty)).before args s = true) : ∃ cA : ClassId, ArrOfT s cA (.array ty) ∧ va_RA s cA (.array ty) := by
  obtain ⟨comp, c, k, h1, -, h2, h3, h4⟩ := Jvm.Stand.arrayOver_specB h
  exact ⟨c, fun n z => ⟨fun k h => (by cases h), k, h2, comp, h3⟩, h4⟩
theorem mj_start {s : State} {b : Nat} (hts : ∀ w ∈ lw_tbl, w.before #[Value.ref b] s = true) (hgv : (Jvm.Cond.and given_1 narrow_1).before #[Value.ref b] s = true) :
    ∃ (D : va_G) (dT : Nat → ClassId) (ad : Nat → Nat), ad mjScr = b ∧ mjKX D dT ad (fun q => s.heap.size ≤ q) s := by
  have hfl : ∀ w ∈ mjFl, w.before #[Value.ref b] s = true := flat_of_before _ hgv
  have ht1 : ∀ w ∈ tables_1, w.before #[Value.ref b] s = true := fun w hw => hts w (List.mem_append_right _ hw)
  have hgl : ∀ w ∈ mjGl, w.before #[Value.ref b] s = true := fun w hw => hts w (List.mem_filter.mp hw).1
  have hC : ∀ ci : Nat, ∃ z : ClassId × (Nat → Nat), ∀ r, vwCl[ci]? = some r → u_Kn s r.1 r.2.1 r.2.2 z.1 z.2 := by
    intro ci
    cases h : vwCl[ci]? with
    | none => exact ⟨(0, fun _ => 0), fun r hr => by cases hr⟩
    | some r =>
      obtain ⟨-, h2, -, -, h5, -⟩ := mj_cls h
      obtain ⟨cC, iS, hk⟩ := u_known hgl h2 (hgl _ h5)
      exact ⟨(cC, iS), fun r' hr => by cases hr; exact hk⟩
  obtain ⟨fC, hfC⟩ := Classical.skolem.mp hC
  have hT : ∀ n : Nat, ∃ c : ClassId, 100 ≤ n → n < 107 → ArrOfT s c (mjAty n) ∧ va_RA s c (mjAty n) := by
    intro n
    by_cases hn : 100 ≤ n ∧ n < 107
    · obtain ⟨h1, h2⟩ := hn
      have : n = 100 ∨ n = 101 ∨ n = 102 ∨ n = 103 ∨ n = 104 ∨ n = 105 ∨ n = 106 := by omega
      rcases this with rfl | rfl | rfl | rfl | rfl | rfl | rfl
      · obtain ⟨c, hc⟩ := mj_arrP (ty := .int) (fun C h => by cases h) (ht1 (.arrayClass .int) (by decide +kernel)); exact ⟨c, fun _ _ => hc⟩
      · obtain ⟨c, hc⟩ := mj_arrP (ty := .long) (fun C h => by cases h) (ht1 (.arrayClass .long) (by decide +kernel)); exact ⟨c, fun _ _ => hc⟩
      · obtain ⟨c, hc⟩ := mj_arrP (ty := .byte) (fun C h => by cases h) (ht1 (.arrayClass .byte) (by decide +kernel)); exact ⟨c, fun _ _ => hc⟩
      · obtain ⟨c, hc⟩ := mj_arrP (ty := .boolean) (fun C h => by cases h) (ht1 (.arrayClass .boolean) (by decide +kernel)); exact ⟨c, fun _ _ => hc⟩
      · obtain ⟨c, hc⟩ := mj_arrO (C := RX4) (ht1 (.arrayOver (.object RX4)) (by decide +kernel)); exact ⟨c, fun _ _ => hc⟩
      · obtain ⟨c, hc⟩ := mj_arrO (C := RX7) (ht1 (.arrayOver (.object RX7)) (by decide +kernel)); exact ⟨c, fun _ _ => hc⟩
      · obtain ⟨c, hc⟩ := mj_arrA (ty := .int) (ht1 (.arrayOver (.array .int)) (by decide +kernel)); exact ⟨c, fun _ _ => hc⟩
    · exact ⟨0, fun h1 h2 => absurd ⟨h1, h2⟩ hn⟩
  obtain ⟨fT, hfT⟩ := Classical.skolem.mp hT
  have hS : ∀ j : Nat, ∃ a : Nat, ∀ o i tx, mjStx j = some (o, i, tx) → vk_R o i tx a s := by
    intro j
    cases h : mjStx j with
    | none => exact ⟨0, fun o i tx h => by cases h⟩
    | some q =>
      obtain ⟨o, i, tx⟩ := q
      have hw := ht1 _ (mjStx_in h)
      have hcur : ∃ cur, s.vm.findClass o = some cur := by
        have h1 := hw
        simp only [Cond.before, Cond.holds, Cond.value] at h1
        cases hc : s.vm.findClass o with
        | none => simp [hc] at h1
        | some cur => exact ⟨cur, rfl⟩
      obtain ⟨cur, hcur⟩ := hcur
      have hw0 : (Cond.stringRef o i tx).before #[] s = true := hw
      obtain ⟨-, -, -, a, -, -, -, -, -, hev⟩ := Cond.stringRef_spec hcur hw0
      exact ⟨a, fun o' i' tx' h' => by cases h'; exact ⟨hw0, hev⟩⟩
  obtain ⟨fS, hfS⟩ := Classical.skolem.mp hS
  refine ⟨(fun c => (fC c).1, fun c => (fC c).2), fT, fun n => if n = mjScr then b else fS (n - mjS0), if_pos rfl, ⟨fun ci r hr => hfC ci r hr, fun k x hx => ?_⟩, fun j o i tx hj => ?_, fun w hw => ?_, fun w hw => ?_, fun a c E F ha hc hne => ?_, ⟨ht1 (.arrayOver (.object RX4)) (by decide +kernel), ht1 (.arrayOver (.object RX7)) (by decide +kernel), ht1 (.arrayOver (.array .int)) (by decide +kernel)⟩, ?_, ?_⟩
  · rw [List.getElem?_map] at hx
    by_cases hk : k < 7
    · rw [List.getElem?_range hk] at hx
      cases hx
      exact hfT _ (by omega) (by omega)
    · rw [List.getElem?_eq_none (by rw [List.length_range]; omega)] at hx
      cases hx
  · have hlt : j < 16 * mjStr.length := by
      unfold mjStx at hj
      split at hj
      · rename_i l hl
        have := (List.getElem?_eq_some_iff.mp hl).1
        omega
      · cases hj
    have hlen : mjStr.length < 1000 := by decide +kernel
    have hne : ¬ mjS0 + j = mjScr := by show ¬ 1000000 + j = 3000000; omega
    show vk_R o i tx (if mjS0 + j = mjScr then b else fS (mjS0 + j - mjS0)) s
    rw [if_neg hne, Nat.add_sub_cancel_left]
    exact hfS j o i tx hj
  · have h1 := List.all_eq_true.mp mjXw_k w hw
    have h2 := List.all_eq_true.mp mjXw_in w hw
    simp only [Bool.and_eq_true, decide_eq_true_eq] at h1 h2
    exact va_Nw.of h1.1 (ht1 w h2)
  · obtain ⟨a, i, x, h, rfl⟩ := mjNw_form w hw
    have h2 := List.all_eq_true.mp mjNw_in _ hw
    exact va_Nw.of rfl (ht1 _ (of_decide_eq_true h2))
  · have hb : ∀ {n : Nat} {z : String}, mjEn n = some z → n < mjEp.length := by
      intro n z h
      unfold mjEn at h
      cases h9 : mjEp[n]? with
      | none => rw [h9] at h; cases h
      | some q => exact (List.getElem?_eq_some_iff.mp h9).1
    have h1 := mjNcB_ok
    unfold mjNcB at h1
    have h2 := List.all_eq_true.mp (List.all_eq_true.mp h1 a (List.mem_range.mpr (hb ha))) c (List.mem_range.mpr (hb hc))
    rw [ha, hc] at h2
    simp only [Bool.or_eq_true, decide_eq_true_eq, List.contains_iff_mem] at h2
    exact va_Nc.of (hfl _ (mjNcs_mem (h2.resolve_left hne)))
  · exact vx_Zqof (ht1 _ (by decide +kernel)) (ht1 _ (by decide +kernel)) (hfl _ (by decide +kernel)) (fun a ha h => absurd ha (Nat.not_lt.mpr h))
  · exact vx_Zqof (ht1 _ (by decide +kernel)) (ht1 _ (by decide +kernel)) (hfl _ (by decide +kernel)) (fun a ha h => absurd ha (Nat.not_lt.mpr h))
end MJSTART

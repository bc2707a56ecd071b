/-! MJ: what a law's entry gives -/
section MJSTART
def mjFl : List Cond := flatC (Jvm.Cond.and given_1 narrow_1)
noncomputable def mjNcs : List (String × String) := mjFl.filterMap (fun w => match w with | .not (.castable a b) => some (a, b) | _ => none)
noncomputable def mjNcB (n : Nat) : Bool := (List.range n).all (fun a => (List.range n).all (fun b => decide (a = b) || (match mjEn a, mjEn b with | some E, some F => mjNcs.contains (E, F) | _, _ => false)))
set_option maxRecDepth 100000 in
theorem mjNcB_ok : mjNcB mjEp.length = true := by decide +kernel
theorem mjNcs_mem {E F : String} (h : (E, F) ∈ mjNcs) : Cond.not (.castable E F) ∈ mjFl := by
  obtain ⟨w, hw, he⟩ := List.mem_filterMap.mp h
  split at he
  · cases he
    exact hw
  · cases he
set_option maxRecDepth 100000 in
theorem mjStr_in : mjStr.all (fun l => l.all (fun q => decide (Cond.stringRef q.1 q.2.1 q.2.2 ∈ tables_1))) = true := by decide +kernel
theorem mjStx_in {j : Nat} {o : String} {i : Nat} {tx : String} (h : mjStx j = some (o, i, tx)) : Cond.stringRef o i tx ∈ tables_1 := by
  unfold mjStx at h
  split at h
  · rename_i l hl
    have h1 := List.all_eq_true.mp mjStr_in l (List.mem_of_getElem? hl)
    exact of_decide_eq_true (List.all_eq_true.mp h1 (o, i, tx) (List.mem_of_getElem? h))
  · cases h
theorem mj_arrP {s : State} {args : Array Value} {ty : FieldType} (hn : ∀ C, ty ≠ .object C) (h : (Cond.arrayClass ty).before args s = true) : ∃ cA : ClassId, ArrOfT s cA ty ∧ va_RA s cA ty := by
  obtain ⟨c, k, comp, h1, h2, h3⟩ := Cond.arrayClass_spec h
  refine ⟨c, fun n z => ⟨fun k h => ?_, k, h2, comp, h3⟩, ?_⟩
  · exact absurd h (by intro h; cases h)
  · cases ty <;> first | exact h1 | exact absurd rfl (hn _)
theorem mj_arrO {s : State} {args : Array Value} {C : String} (h : (Cond.arrayOver (.object C)).before args s = true) : ∃ cA : ClassId, ArrOfT s cA (.object C) ∧ va_RA s cA (.object C) := by
  obtain ⟨comp, c, k, h1, -, h2, h3, h4⟩ := Cond.arrayOver_spec h
  exact ⟨c, fun n z => ⟨fun k h => (by cases h), k, h2, comp, h3⟩, k, comp, h2, h3, h1, h4⟩
theorem mj_arrA {s : State} {args : Array Value} {ty : FieldType} (h : (Cond.arrayOver (.array ty)).before args s = true) : ∃ cA : ClassId, ArrOfT s cA (.array ty) ∧ va_RA s cA (.array ty) := by
  obtain ⟨comp, c, k, h1, -, h2, h3, h4⟩ := Jvm.Stand.arrayOver_specB h
  exact ⟨c, fun n z => ⟨fun k h => (by cases h), k, h2, comp, h3⟩, h4⟩
/-- what the premises say of a text -/
noncomputable def mjTxW (o : String) (i : Nat) (bs : List Nat) : List Cond :=
  [.exactly (.string o i) RJ0, .eq (.field (.string o i) RJ0 "coder" "B") (.int 0), .arrayOf (.field (.string o i) RJ0 "value" "[B") .byte, .eq (.length (.field (.string o i) RJ0 "value" "[B")) (.int (Int32.ofNat bs.length))] ++
    (List.range bs.length).map (fun j => .eq (.elem (.field (.string o i) RJ0 "value" "[B") (.int (Int32.ofNat j))) (.int (Int32.ofNat (bs.getD j 0))))
noncomputable def mjTxA : List Cond := (mjStr.zip mjTxt).flatMap (fun q => (q.1.zip q.2).flatMap (fun z => mjTxW z.1.1 z.1.2.1 z.2))
def mjTxF : Cond → Bool
  | .exactly (.string _ _) _ => true
  | .eq (.field (.string _ _) _ _ _) _ => true
  | .arrayOf (.field (.string _ _) _ _ _) _ => true
  | .eq (.length (.field (.string _ _) _ _ _)) _ => true
  | .eq (.elem (.field (.string _ _) _ _ _) _) _ => true
  | _ => false
set_option maxRecDepth 1000000 in
theorem mjTxA_ok : mjFl.filter mjTxF = mjTxA := by decide +kernel
theorem mjTxA_in {w : Cond} (h : w ∈ mjTxA) : w ∈ mjFl := by
  rw [← mjTxA_ok] at h
  exact (List.mem_filter.mp h).1
noncomputable def mjTxD (j : Nat) : Bool := match mjTxo (mjS0 + j) with | none => true | some _ => (mjStx j).isSome
set_option maxRecDepth 1000000 in
theorem mjTxC_ok : (List.range 32).all mjTxD = true := by decide +kernel
theorem mjTxo_at {j : Nat} {bs : List Nat} (h : mjTxo (mjS0 + j) = some bs) : ∃ l, mjTxt[j / 16]? = some l ∧ l[j % 16]? = some bs := by
  unfold mjTxo at h
  rw [if_pos (Nat.le_add_right _ _), Nat.add_sub_cancel_left] at h
  split at h
  · rename_i l hl
    exact ⟨l, hl, h⟩
  · cases h
theorem mjTxo_st {j : Nat} {bs : List Nat} (h : mjTxo (mjS0 + j) = some bs) : ∃ q, mjStx j = some q := by
  obtain ⟨l, hl, h2⟩ := mjTxo_at h
  have h3 : j / 16 < mjTxt.length := (List.getElem?_eq_some_iff.mp hl).1
  have h4 : mjTxt.length = 2 := by decide +kernel
  rw [h4] at h3
  have hc := List.all_eq_true.mp mjTxC_ok j (List.mem_range.mpr (by omega))
  unfold mjTxD at hc
  rw [h] at hc
  exact Option.isSome_iff_exists.mp hc
theorem mjTxo_in {o : Nat} {bs : List Nat} (h : mjTxo o = some bs) : ∃ (j : Nat) (ow : String) (i : Nat) (tx : String), o = mjS0 + j ∧ mjStx j = some (ow, i, tx) ∧ ∀ w ∈ mjTxW ow i bs, w ∈ mjFl := by
  obtain ⟨j, rfl⟩ := Nat.exists_eq_add_of_le (mjTxo_le h)
  obtain ⟨l, hl, h2⟩ := mjTxo_at h
  obtain ⟨⟨ow, i, tx⟩, hs⟩ := mjTxo_st h
  refine ⟨j, ow, i, tx, rfl, hs, fun w hw => ?_⟩
  unfold mjStx at hs
  split at hs
  · rename_i l2 hl2
    have m1 : ((l2, l) : List (String × Nat × String) × List (List Nat)) ∈ mjStr.zip mjTxt := List.mem_of_getElem? (List.getElem?_zip_eq_some.mpr ⟨hl2, hl⟩)
    have m2 : (((ow, i, tx), bs) : (String × Nat × String) × List Nat) ∈ l2.zip l := List.mem_of_getElem? (List.getElem?_zip_eq_some.mpr ⟨hs, h2⟩)
    have m3 : w ∈ mjTxA := List.mem_flatMap.mpr ⟨_, m1, List.mem_flatMap.mpr ⟨_, m2, hw⟩⟩
    exact mjTxA_in m3
  · cases hs
theorem mj_text1 {s : State} {args : Array Value} {o : String} {i a : Nat} {bs : List Nat} {A : Nat → Prop} (hn : bs.length < 2147483648) (ht : (Term.string o i).eval args s none [] s = some (.ref a)) (hw : ∀ w ∈ mjTxW o i bs, w.before args s = true) (hA : ∀ a : Nat, a < s.heap.size → ¬ A a)
    (hz : va_Z RJ0 "COMPACT_STRINGS" "Z" (.int 1) A s s.heap) (hq : va_Zq RJ3 "SIOOBE_FORMATTER" "Ljava/util/function/BiFunction;" A s s.heap) : ∃ t, jtT a t bs A s s.heap := by
  have h1 := hw _ (List.mem_append_left _ (List.mem_cons_self))
  have h2 := hw _ (List.mem_append_left _ (List.mem_cons_of_mem _ (List.mem_cons_self)))
  have h3 := hw _ (List.mem_append_left _ (List.mem_cons_of_mem _ (List.mem_cons_of_mem _ (List.mem_cons_self))))
  have h4 := hw _ (List.mem_append_left _ (List.mem_cons_of_mem _ (List.mem_cons_of_mem _ (List.mem_cons_of_mem _ (List.mem_cons_self)))))
  obtain ⟨t, e1, e2⟩ := va_Tof (N := bs.length) (f := fun j => .int (Int32.ofNat (bs.getD j 0))) (A := A) hn h3 (va_eqt h4) (fun j hj => va_eqt (hw _ (List.mem_append_right _ (List.mem_map.mpr ⟨j, List.mem_range.mpr hj, rfl⟩)))) hA
  exact ⟨t, va_Oof h1 ht hA, vk_OFof ht (va_eqt h2) hA, vk_OFof ht e1 hA, e2, hz, hq⟩
theorem mj_start {s : State} {b : Nat} (hts : ∀ w ∈ lw_tbl, w.before #[Value.ref b] s = true) (hgv : (Jvm.Cond.and given_1 narrow_1).before #[Value.ref b] s = true) :
    ∃ (D : va_G) (dT : Nat → ClassId) (ad : Nat → Nat), ad mjScr = b ∧ mjKX D dT ad (fun q => s.heap.size ≤ q) s := by
  have hfl : ∀ w ∈ mjFl, w.before #[Value.ref b] s = true := flat_of_before _ hgv
  have ht1 : ∀ w ∈ tables_1, w.before #[Value.ref b] s = true := fun w hw => hts w (List.mem_append_right _ hw)
  have hgl : ∀ w ∈ mjGl, w.before #[Value.ref b] s = true := fun w hw => hts w (List.mem_filter.mp hw).1
  have hC : ∀ ci : Nat, ∃ z : ClassId × (Nat → Nat), ∀ r, vwCl[ci]? = some r → u_Kn s r.1 r.2.1 r.2.2 z.1 z.2 := by
    intro ci
    cases h : vwCl[ci]? with
    | none => exact ⟨(0, fun _ => 0), fun r hr => by cases hr⟩
    | some r =>
      obtain ⟨-, h2, -, -, h5, -⟩ := mj_cls h
      obtain ⟨cC, iS, hk⟩ := u_known hgl h2 (hgl _ h5)
      exact ⟨(cC, iS), fun r' hr => by cases hr; exact hk⟩
  obtain ⟨fC, hfC⟩ := Classical.skolem.mp hC
  have hT : ∀ n : Nat, ∃ c : ClassId, 100 ≤ n → n < 107 → ArrOfT s c (mjAty n) ∧ va_RA s c (mjAty n) := by
    intro n
    by_cases hn : 100 ≤ n ∧ n < 107
    · obtain ⟨h1, h2⟩ := hn
      have : n = 100 ∨ n = 101 ∨ n = 102 ∨ n = 103 ∨ n = 104 ∨ n = 105 ∨ n = 106 := by omega
      rcases this with rfl | rfl | rfl | rfl | rfl | rfl | rfl
      · obtain ⟨c, hc⟩ := mj_arrP (ty := .int) (fun C h => by cases h) (ht1 (.arrayClass .int) (by decide +kernel)); exact ⟨c, fun _ _ => hc⟩
      · obtain ⟨c, hc⟩ := mj_arrP (ty := .long) (fun C h => by cases h) (ht1 (.arrayClass .long) (by decide +kernel)); exact ⟨c, fun _ _ => hc⟩
      · obtain ⟨c, hc⟩ := mj_arrP (ty := .byte) (fun C h => by cases h) (ht1 (.arrayClass .byte) (by decide +kernel)); exact ⟨c, fun _ _ => hc⟩
      · obtain ⟨c, hc⟩ := mj_arrP (ty := .boolean) (fun C h => by cases h) (ht1 (.arrayClass .boolean) (by decide +kernel)); exact ⟨c, fun _ _ => hc⟩
      · obtain ⟨c, hc⟩ := mj_arrO (C := RX4) (ht1 (.arrayOver (.object RX4)) (by decide +kernel)); exact ⟨c, fun _ _ => hc⟩
      · obtain ⟨c, hc⟩ := mj_arrO (C := RX7) (ht1 (.arrayOver (.object RX7)) (by decide +kernel)); exact ⟨c, fun _ _ => hc⟩
      · obtain ⟨c, hc⟩ := mj_arrA (ty := .int) (ht1 (.arrayOver (.array .int)) (by decide +kernel)); exact ⟨c, fun _ _ => hc⟩
    · exact ⟨0, fun h1 h2 => absurd ⟨h1, h2⟩ hn⟩
  obtain ⟨fT, hfT⟩ := Classical.skolem.mp hT
  have hS : ∀ j : Nat, ∃ a : Nat, ∀ o i tx, mjStx j = some (o, i, tx) → vk_R o i tx a s := by
    intro j
    cases h : mjStx j with
    | none => exact ⟨0, fun o i tx h => by cases h⟩
    | some q =>
      obtain ⟨o, i, tx⟩ := q
      have hw := ht1 _ (mjStx_in h)
      have hcur : ∃ cur, s.vm.findClass o = some cur := by
        have h1 := hw
        simp only [Cond.before, Cond.holds, Cond.value] at h1
        cases hc : s.vm.findClass o with
        | none => simp [hc] at h1
        | some cur => exact ⟨cur, rfl⟩
      obtain ⟨cur, hcur⟩ := hcur
      have hw0 : (Cond.stringRef o i tx).before #[] s = true := hw
      obtain ⟨-, -, -, a, -, -, -, -, -, hev⟩ := Cond.stringRef_spec hcur hw0
      exact ⟨a, fun o' i' tx' h' => by cases h'; exact ⟨hw0, hev⟩⟩
  obtain ⟨fS, hfS⟩ := Classical.skolem.mp hS
  refine ⟨(fun c => (fC c).1, fun c => (fC c).2), fT, fun n => if n = mjScr then b else fS (n - mjS0), if_pos rfl, ⟨fun ci r hr => hfC ci r hr, fun k x hx => ?_⟩, fun j o i tx hj => ?_, fun w hw => ?_, fun w hw => ?_, fun a c E F ha hc hne => ?_, ⟨ht1 (.arrayOver (.object RX4)) (by decide +kernel), ht1 (.arrayOver (.object RX7)) (by decide +kernel), ht1 (.arrayOver (.array .int)) (by decide +kernel)⟩, ?_, ?_, fun o bs ho => ?_⟩
  · rw [List.getElem?_map] at hx
    by_cases hk : k < 7
    · rw [List.getElem?_range hk] at hx
      cases hx
      exact hfT _ (by omega) (by omega)
    · rw [List.getElem?_eq_none (by rw [List.length_range]; omega)] at hx
      cases hx
  · have hlt : j < 16 * mjStr.length := by
      unfold mjStx at hj
      split at hj
      · rename_i l hl
        have := (List.getElem?_eq_some_iff.mp hl).1
        omega
      · cases hj
    have hlen : mjStr.length < 1000 := by decide +kernel
    have hne : ¬ mjS0 + j = mjScr := by show ¬ 1000000 + j = 3000000; omega
    show vk_R o i tx (if mjS0 + j = mjScr then b else fS (mjS0 + j - mjS0)) s
    rw [if_neg hne, Nat.add_sub_cancel_left]
    exact hfS j o i tx hj
  · have h1 := List.all_eq_true.mp mjXw_k w hw
    have h2 := List.all_eq_true.mp mjXw_in w hw
    simp only [Bool.and_eq_true, decide_eq_true_eq] at h1 h2
    exact va_Nw.of h1.1 (ht1 w h2)
  · obtain ⟨a, i, x, h, rfl⟩ := mjNw_form w hw
    have h2 := List.all_eq_true.mp mjNw_in _ hw
    exact va_Nw.of rfl (ht1 _ (of_decide_eq_true h2))
  · have hb : ∀ {n : Nat} {z : String}, mjEn n = some z → n < mjEp.length := by
      intro n z h
      unfold mjEn at h
      cases h9 : mjEp[n]? with
      | none => rw [h9] at h; cases h
      | some q => exact (List.getElem?_eq_some_iff.mp h9).1
    have h1 := mjNcB_ok
    unfold mjNcB at h1
    have h2 := List.all_eq_true.mp (List.all_eq_true.mp h1 a (List.mem_range.mpr (hb ha))) c (List.mem_range.mpr (hb hc))
    rw [ha, hc] at h2
    simp only [Bool.or_eq_true, decide_eq_true_eq, List.contains_iff_mem] at h2
    exact va_Nc.of (hfl _ (mjNcs_mem (h2.resolve_left hne)))
  · exact vx_Zqof (ht1 _ (by decide +kernel)) (ht1 _ (by decide +kernel)) (hfl _ (by decide +kernel)) (fun a ha h => absurd ha (Nat.not_lt.mpr h))
  · exact vx_Zqof (ht1 _ (by decide +kernel)) (ht1 _ (by decide +kernel)) (hfl _ (by decide +kernel)) (fun a ha h => absurd ha (Nat.not_lt.mpr h))
  · obtain ⟨j, ow, i, tx, rfl, hj, hw⟩ := mjTxo_in ho
    have hlt : j < 16 * mjStr.length := by
      unfold mjStx at hj
      split at hj
      · rename_i l hl
        have := (List.getElem?_eq_some_iff.mp hl).1
        omega
      · cases hj
    have hlen : mjStr.length < 1000 := by decide +kernel
    have hne : ¬ mjS0 + j = mjScr := by show ¬ 1000000 + j = 3000000; omega
    show ∃ t, jtT (if mjS0 + j = mjScr then b else fS (mjS0 + j - mjS0)) t bs _ s s.heap
    rw [if_neg hne, Nat.add_sub_cancel_left]
    have hA : ∀ a : Nat, a < s.heap.size → ¬ s.heap.size ≤ a := fun a ha h => absurd ha (Nat.not_lt.mpr h)
    exact mj_text1 (args := #[Value.ref b]) (mjTxo_ok ho).1 (hfS j ow i tx hj).2 (fun w h => hfl w (hw w h)) hA (va_Zof (ht1 _ (by decide +kernel)) (ht1 _ (by decide +kernel)) (va_eqi (hfl _ (by decide +kernel))) hA) (va_Zqof (ht1 _ (by decide +kernel)) (ht1 _ (by decide +kernel)) (hfl _ (by decide +kernel)) hA)
end MJSTART

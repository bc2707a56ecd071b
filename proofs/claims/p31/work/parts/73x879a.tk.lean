/-! PC: the TONGUE in step: what the small readers come to, with how it goes on -/
section PCTK
variable {m : Nat} {L : mjL} {S : List Value} {H H' H2 : mjH} {r r2 : Option Value ⊕ Nat} {tx : Nat → Nat} {n s s' o e k0 pc0 Q : Nat} {cs : List Int} {rs : List (Int × Int)}
abbrev Kt (m k pc : Nat) (L : mjL) (S : List Value) (r2 : Option Value ⊕ Nat) (H2 : mjH) (r : Option Value ⊕ Nat) (H' : mjH) : Prop := (∃ cv, r2 = .inl cv ∧ Pn none m k pc L (cv.toList ++ S) H2 r H') ∨ (∃ E, r2 = .inr E ∧ r = .inr E ∧ H' = H2)
theorem Kt_v (h : Kt m k0 pc0 L S (.inl none) H2 r H') : Pn none m k0 pc0 L S H2 r H' := by
  rcases h with ⟨cv, e, h⟩ | ⟨E, e, -⟩
  · cases e
    exact h
  · cases e
theorem Kt_i {v : Value} (h : Kt m k0 pc0 L S (.inl (some v)) H2 r H') : Pn none m k0 pc0 L (v :: S) H2 r H' := by
  rcases h with ⟨cv, e, h⟩ | ⟨E, e, -⟩
  · cases e
    exact h
  · cases e
theorem sOk_mk {c : Int} (h : (32 < c ∧ c < 48) ∨ (57 < c ∧ c < 97)) : sOk c := ⟨fun z => by
  have h1 := z.1
  omega, fun z => by
  have h1 := z.1
  have h2 := z.2
  omega, by omega, by omega, by omega⟩
theorem ztB_in {c : Int} (h : ztB tx n s = c) (hc : 0 ≤ c) : s < n := by
  rcases Nat.lt_or_ge s n with z | z
  · exact z
  · rw [ztB_ge z] at h
    omega
theorem ztEnd_sig {c : Int} (h : ztB tx n s = c) (hs : sOk c) : ztEnd tx n s (s + 1) := by
  have hlt := ztB_in h hs.2.2.2.1
  have e9 : (tx s : Int) = c := by rw [← ztB_lt hlt]; exact h
  exact ⟨3, tx s, Or.inr (Or.inr (Or.inr ⟨hlt, by rw [e9]; exact hs.1, by rw [e9]; exact hs.2.1, rfl, rfl, rfl⟩))⟩
theorem ztEnd_le (h : ztEnd tx n s e) : s ≤ e := by
  obtain ⟨k, v, h⟩ := h
  rcases h with ⟨-, -, -, h⟩ | ⟨-, -, -, -, h⟩ | ⟨-, -, -, -, h⟩ | ⟨-, -, -, -, -, h⟩
  · omega
  · exact h.1
  · exact h.1
  · omega
theorem cAt_cg (h : cAt H tx n s) (hs : ∀ b, 2 ≤ b → b ≤ 6 → sxEl H' 1 b = sxEl H 1 b) : cAt H' tx n s := by
  obtain ⟨a1, a2, a3, a4, k, v, e, a5, a6, a7, a8, a9⟩ := h
  exact ⟨(gI_cgE (hs 2 (by omega) (by omega))).trans a1, a2, a3, (gI_cgE (hs 4 (by omega) (by omega))).trans a4, k, v, e, a5, (gI_cgE (hs 3 (by omega) (by omega))).trans a6, (gI_cgE (hs 6 (by omega) (by omega))).trans a7, (gI_cgE (hs 5 (by omega) (by omega))).trans a8, a9⟩
/-- the class reads well, and has so many codes -/
def cG (H : mjH) (Q : Nat) (cs : List Int) (tx : Nat → Nat) (n s o : Nat) : Prop := (HT H ∧ tcC H tx n ∧ cAt H tx n s ∧ gI H 1 7 = Int32.ofInt (o : Int) ∧ gI H 1 8 = Int32.ofInt 0) ∧ n ≤ 200 ∧ gI H Q 2 = Int32.ofInt (cs.length : Int) ∧ cs.length ≤ s ∧ ∀ (i : Nat) (c : Int), cs[i]? = some c → gI H (Q + 1) i = Int32.ofInt c
theorem cG_fr {o' : Nat} (hQ : Q = 19 ∨ Q = 23) (h : cG H Q cs tx n s o) (hT : HT H') (hF : ∀ a b, ¬ (a = 1 ∧ 3 ≤ b ∧ b ≤ 7) → sxEl H' a b = sxEl H a b) (ha : cAt H' tx n s') (h7 : gI H' 1 7 = Int32.ofInt (o' : Int)) (hs : s ≤ s') : cG H' Q cs tx n s' o' := by
  obtain ⟨⟨c1, c2, c3, c4, c9⟩, c5, c6, c7, c8⟩ := h
  exact ⟨⟨hT, c2.cg (fun a b z => hF a b (by omega)), ha, h7, (gI_cgE (hF 1 8 (by omega))).trans c9⟩, c5, (gI_cgE (hF Q 2 (by omega))).trans c6, by omega, fun i c hi => (gI_cgE (hF (Q + 1) i (by omega))).trans (c8 i c hi)⟩
theorem cG_isw {w : Nat} {ws : List Nat} (h : cG H Q cs tx n s o) (ho : mjTxo w = some ws) (hw : wOk ws) (q : Pn none m 85 0 [(0, .ref 1), (1, .ref w)] [] H r2 H2) (k : Kt m k0 pc0 L S r2 H2 r H') : (ztWd tx n s ws ∧ Pn none m k0 pc0 L (.int (Int32.ofInt 1) :: S) H r H') ∨ (¬ ztWd tx n s ws ∧ Pn none m k0 pc0 L (.int (Int32.ofInt 0) :: S) H r H') := by
  obtain ⟨d, e⟩ := px_isw h.1.1 h.1.2.1 h.1.2.2.1 ho hw q
  rw [e] at k
  rcases d with ⟨g, d⟩ | ⟨g, d⟩
  · rw [d] at k
    exact Or.inl ⟨g, Kt_i k⟩
  · rw [d] at k
    exact Or.inr ⟨g, Kt_i k⟩
theorem cG_sig {c : Int} (h : cG H Q cs tx n s o) (hs : sOk c) (q : Pn none m 86 0 [(0, .ref 1), (1, .int (Int32.ofInt c))] [] H r2 H2) (k : Kt m k0 pc0 L S r2 H2 r H') : (ztB tx n s = c ∧ Pn none m k0 pc0 L (.int (Int32.ofInt 1) :: S) H r H') ∨ (¬ ztB tx n s = c ∧ Pn none m k0 pc0 L (.int (Int32.ofInt 0) :: S) H r H') := by
  obtain ⟨d, e⟩ := px_sig h.1.1 h.1.2.2.1 h.1.2.1 hs q
  rw [e] at k
  rcases d with ⟨g, d⟩ | ⟨g, d⟩
  · rw [d] at k
    exact Or.inl ⟨g, Kt_i k⟩
  · rw [d] at k
    exact Or.inr ⟨g, Kt_i k⟩
theorem cG_num (h : cG H Q cs tx n s o) (q : Pn none m 87 0 [(0, .ref 1)] [] H r2 H2) (k : Kt m k0 pc0 L S r2 H2 r H') : (ztDg (ztB tx n s) ∧ Pn none m k0 pc0 L (.int (Int32.ofInt 1) :: S) H r H') ∨ (¬ ztDg (ztB tx n s) ∧ Pn none m k0 pc0 L (.int (Int32.ofInt 0) :: S) H r H') := by
  obtain ⟨d, e⟩ := px_num h.1.1 h.1.2.2.1 q
  rw [e] at k
  rcases d with ⟨g, d⟩ | ⟨g, d⟩
  · rw [d] at k
    exact Or.inl ⟨g, Kt_i k⟩
  · rw [d] at k
    exact Or.inr ⟨g, Kt_i k⟩
theorem cG_step (hQ : Q = 19 ∨ Q = 23) (h : cG H Q cs tx n s o) (he : ztEnd tx n s e) (q : Pn none m 83 0 [(0, .ref 1)] [] H r2 H2) (k : Kt m k0 pc0 L S r2 H2 r H') : ∃ s', ztRun ztBl tx n e s' ∧ cG H2 Q cs tx n s' o ∧ Pn none m k0 pc0 L S H2 r H' := by
  obtain ⟨e1, s', f1, f2, f3, f4, f5, f6⟩ := px_next h.1.1 h.1.2.1 h.1.2.2.1 q
  rw [ztEnd_un f1 he] at f2
  rw [f3] at k
  have l1 := ztEnd_le he
  have l2 := f2.1
  exact ⟨s', f2, cG_fr hQ h f4 (fun a b z => f5 a b (by omega)) f6 ((gI_cgE (f5 1 7 (by omega))).trans h.1.2.2.2.1) (by omega), Kt_v k⟩
theorem cG_op (hQ : Q = 19 ∨ Q = 23) (h : cG H Q cs tx n s o) (he : ztEnd tx n s e) (ho : o ≤ 6) (q : Pn none m 93 0 [(0, .ref 1)] [] H r2 H2) (k : Kt m k0 pc0 L S r2 H2 r H') : (o < 6 ∧ ∃ s', ztRun ztBl tx n e s' ∧ cG H2 Q cs tx n s' (o + 1) ∧ Pn none m k0 pc0 L (.int (Int32.ofInt 1) :: S) H2 r H') ∨ (6 ≤ o ∧ HT H2 ∧ cBad H2 ∧ Pn none m k0 pc0 L (.int (Int32.ofInt 0) :: S) H2 r H') := by
  obtain ⟨x1, x2⟩ := px_op h.1.1 h.1.2.1 h.1.2.2.1 h.1.2.2.2.1 ho q
  rcases x2 with ⟨g, e1, e2, e3, e9, s', e4, e5, e6⟩ | ⟨g, e1, e2⟩
  · rw [ztEnd_un e4 he] at e5
    rw [e1] at k
    have l1 := ztEnd_le he
    have l2 := e5.1
    exact Or.inl ⟨g, s', e5, cG_fr hQ h x1 (fun a b z => e2 a b (by omega)) e6 e3 (by omega), Kt_i k⟩
  · rw [e1] at k
    exact Or.inr ⟨g, x1, e2, Kt_i k⟩
theorem cG_ts {c : Int} (hQ : Q = 19 ∨ Q = 23) (h : cG H Q cs tx n s o) (hs : sOk c) (q : Pn none m 90 0 [(0, .ref 1), (1, .int (Int32.ofInt c))] [] H r2 H2) (k : Kt m k0 pc0 L S r2 H2 r H') : (ztB tx n s = c ∧ ∃ s', ztRun ztBl tx n (s + 1) s' ∧ cG H2 Q cs tx n s' o ∧ Pn none m k0 pc0 L S H2 r H') ∨ (¬ ztB tx n s = c ∧ HT H2 ∧ cBad H2 ∧ Pn none m k0 pc0 L S H2 r H') := by
  obtain ⟨d, e1, e2⟩ := px_ts h.1.1 h.1.2.1 h.1.2.2.1 hs q
  rw [d] at k
  rcases e2 with ⟨g, f1, s', f2, f3⟩ | ⟨g, f1⟩
  · have l2 := f2.1
    exact Or.inl ⟨g, s', f2, cG_fr hQ h e1 (fun a b z => f1 a b (by omega)) f3 ((gI_cgE (f1 1 7 (by omega))).trans h.1.2.2.2.1) (by omega), Kt_v k⟩
  · exact Or.inr ⟨g, e1, f1, Kt_v k⟩
theorem cG_shut (hQ : Q = 19 ∨ Q = 23) (h : cG H Q cs tx n s (o + 1)) (q : Pn none m 94 0 [(0, .ref 1)] [] H r2 H2) (k : Kt m k0 pc0 L S r2 H2 r H') : cG H2 Q cs tx n s o ∧ Pn none m k0 pc0 L S H2 r H' := by
  obtain ⟨u1, u2, u3, u4⟩ := shuts h.1.1 h.1.2.2.2.1 q
  rw [u1] at k
  exact ⟨cG_fr hQ h u2 (fun a b z => u3 a b (by omega)) (cAt_cg h.1.2.2.1 (fun b _ _ => u3 1 b (by omega))) u4 (Nat.le_refl _), Kt_v k⟩
theorem cG_fail {y : Int} (h : cG H Q cs tx n s o) (hy : 0 < y ∧ y < 100) (q : Pn none m 89 0 [(0, .ref 1), (1, .int (Int32.ofInt y))] [] H r2 H2) (k : Kt m k0 pc0 L S r2 H2 r H') : HT H2 ∧ cBad H2 ∧ Pn none m k0 pc0 L S H2 r H' := by
  obtain ⟨f1, f2, f3⟩ := px_fail h.1.1 h.1.2.2.1 hy q
  rw [f1] at k
  exact ⟨f2, f3, Kt_v k⟩
theorem kQ1 (hQ : Q = 19 ∨ Q = 23) : kA (Q + 1) 100 201 false = true := by rcases hQ with rfl | rfl <;> decide +kernel
theorem kQ2 (hQ : Q = 19 ∨ Q = 23) : kF Q 2 7 false = true := by rcases hQ with rfl | rfl <;> decide +kernel
theorem ap_at {α : Type} {l : List α} {x y : α} {i : Nat} (h : (l ++ [x])[i]? = some y) : l[i]? = some y ∨ (i = l.length ∧ y = x) := by
  by_cases hi : i < l.length
  · rw [List.getElem?_append_left hi] at h
    exact Or.inl h
  · have h1 := (List.getElem?_eq_some_iff.mp h).1
    rw [List.length_append, List.length_singleton] at h1
    have hi2 : i = l.length := by omega
    rw [hi2, List.getElem?_append_right (Nat.le_refl _), Nat.sub_self] at h
    cases h
    exact Or.inr ⟨hi2, rfl⟩
theorem cG_add {v : Int} (hQ : Q = 19 ∨ Q = 23) (h : cG H Q cs tx n s o) (hl : cs.length + 1 ≤ s) (q : Pn none m 97 0 [(0, .ref Q), (1, .int (Int32.ofInt v))] [] H r2 H2) (k : Kt m k0 pc0 L S r2 H2 r H') : cG H2 Q (cs ++ [v]) tx n s o ∧ Pn none m k0 pc0 L S H2 r H' := by
  obtain ⟨⟨c1, c2, c3, c4, c9⟩, c5, c6, c7, c8⟩ := h
  have hsn := c3.2.2.1
  have hb := g_d0 c1 hQ ⟨rfl, rfl, trivial⟩ q
  rw [c6, zz_le, zz_cn, zz_add] at hb
  rcases hb with ⟨g, -⟩ | ⟨-, -, e1, e2⟩
  · omega
  have t1 := HT.pI (x := Int32.ofInt v) (j := cs.length) c1 (kQ1 hQ)
  have t2 := HT.pFI (x := Int32.ofInt ((cs.length : Int) + 1)) t1 (kQ2 hQ)
  have hF : ∀ a b, ¬ (a = Q ∧ b = 2) → a ≠ Q + 1 → sxEl H2 a b = sxEl H a b := fun a b z1 z2 => by rw [e2, sxEl_ne z1, sxEl_ne (fun z => z2 z.1)]
  rw [e1] at k
  refine ⟨⟨⟨by rw [e2]; exact t2, c2.cg (fun a b z => hF a b (by omega) (by omega)), cAt_cg c3 (fun b _ _ => hF 1 b (by omega) (by omega)), (gI_cgE (hF 1 7 (by omega) (by omega))).trans c4, (gI_cgE (hF 1 8 (by omega) (by omega))).trans c9⟩, c5, ?_, by rw [List.length_append]; exact hl, ?_⟩, Kt_v k⟩
  · rw [e2, gI_fat t1 (kQ2 hQ), List.length_append, List.length_singleton]
    exact congrArg Int32.ofInt (by omega)
  · intro i c hi
    rw [e2, gI_ne (by omega)]
    rcases ap_at hi with hi | ⟨hi, hc⟩
    · have hl2 := (List.getElem?_eq_some_iff.mp hi).1
      rw [gI_ne (by omega)]
      exact c8 i c hi
    · rw [hi, hc]
      exact gI_at c1 (kQ1 hQ) (by omega)
/-- a number is taken: what it is, or a fault -/
theorem cG_tn (hQ : Q = 19 ∨ Q = 23) (h : cG H Q cs tx n s o) (q : Pn none m 92 0 [(0, .ref 1), (1, .int (Int32.ofInt 0)), (2, .int (Int32.ofInt 999))] [] H r2 H2) (k : Kt m k0 pc0 L S r2 H2 r H') : (∃ e s', ztRun ztDg tx n s e ∧ s < e ∧ (0 ≤ nvF tx s (e - s) ∧ nvF tx s (e - s) ≤ 999) ∧ ztRun ztBl tx n e s' ∧ cG H2 Q cs tx n s' o ∧ Pn none m k0 pc0 L (.int (Int32.ofInt (nvF tx s (e - s))) :: S) H2 r H') ∨ ((∀ e, ztRun ztDg tx n s e → ¬ (s < e ∧ 0 ≤ nvF tx s (e - s) ∧ nvF tx s (e - s) ≤ 999)) ∧ HT H2 ∧ cBad H2 ∧ ∃ z, Pn none m k0 pc0 L (.int z :: S) H2 r H') := by
  obtain ⟨⟨z, d⟩, e1, e2⟩ := px_tn h.1.1 h.1.2.1 h.1.2.2.1 (by decide) q
  rcases e2 with ⟨e, s', f1, f2, f3, f4, f5, f6, f7⟩ | ⟨f1, f2⟩
  · rw [f4] at k
    have l2 := f6.1
    exact Or.inl ⟨e, s', f1, f2, f3, f6, cG_fr hQ h e1 (fun a b z => f5 a b (by omega)) f7 ((gI_cgE (f5 1 7 (by omega))).trans h.1.2.2.2.1) (by omega), Kt_i k⟩
  · rw [d] at k
    exact Or.inr ⟨f1, e1, f2, z, Kt_i k⟩
end PCTK

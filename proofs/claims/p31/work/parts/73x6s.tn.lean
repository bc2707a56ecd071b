/-! PC: texts: signs and numbers, both sides -/
section PCTN
variable {m : Nat} {L : mjL} {H H' H0 H1 : mjH} {r : Option Value ⊕ Nat} {tx : Nat → Nat} {n s : Nat}
/-- a sign of ours -/
def sOk (c : Int) : Prop := ¬ ztSm c ∧ ¬ ztDg c ∧ c ≠ 32 ∧ 0 ≤ c ∧ c < 128
theorem px_sig {c : Int} (hT : HT H) (ha : cAt H tx n s) (hc : tcC H tx n) (hs : sOk c) (h : Pn none m 86 0 [(0, .ref 1), (1, .int (Int32.ofInt c))] [] H r H') : ((ztB tx n s = c ∧ r = .inl (some (.int (Int32.ofInt 1)))) ∨ (¬ ztB tx n s = c ∧ r = .inl (some (.int (Int32.ofInt 0))))) ∧ H' = H := by
  obtain ⟨a1, a2, a3, a4, k, v, e, a5, a6, a7, a8, a9⟩ := ha
  obtain ⟨s1, s2, s3, s4, s5⟩ := hs
  have hk := ztok_k a5
  have hb := x_sig hT ⟨rfl, rfl, trivial⟩ h
  have hv : -2147483648 ≤ v ∧ v < 2147483648 := by
    rcases a5 with ⟨-, -, q, -⟩ | ⟨q0, -, -, q, -⟩ | ⟨q0, -, -, q, q2⟩ | ⟨q0, -, -, -, q, -⟩
    · omega
    · have := (hc.2 s q0).1
      omega
    · have hd : ∀ i, i < e - s → 48 ≤ (tx (s + i) : Int) := fun i hi => by
        have := q2.2.1 (s + i) (by omega) (by omega)
        rw [ztB_lt (by omega)] at this
        exact this.1
      have := imn_rg (M := 1000000) (nvF_0 hd) (by decide)
      omega
    · have := (hc.2 s q0).1
      omega
  rw [a6, zz_eq, a7, zz_eq (h1 := hv.1) (h2 := hv.2)] at hb
  rcases hb with ⟨g, e1, e2⟩ | ⟨g, ⟨g2, e1, e2⟩ | ⟨g2, e1, e2⟩⟩
  · refine ⟨Or.inr ⟨fun z => g ?_, e1⟩, e2⟩
    rcases a5 with ⟨q, -⟩ | ⟨q, q1, -⟩ | ⟨q, q1, -⟩ | ⟨-, -, -, q, -⟩
    · rw [ztB_ge q] at z
      omega
    · rw [ztB_lt q] at z
      rw [z] at q1
      exact absurd q1 s1
    · rw [ztB_lt q] at z
      rw [z] at q1
      exact absurd q1 s2
    · exact q
  · refine ⟨Or.inr ⟨fun z => g2 ?_, e1⟩, e2⟩
    rcases a5 with ⟨-, q, -⟩ | ⟨-, -, q, -⟩ | ⟨-, -, q, -⟩ | ⟨q, -, -, -, q1, -⟩
    · omega
    · omega
    · omega
    · rw [q1, ← ztB_lt q]
      exact z
  · refine ⟨Or.inl ⟨?_, e1⟩, e2⟩
    have g2 := Classical.not_not.mp g2
    rcases a5 with ⟨-, q, -⟩ | ⟨-, -, q, -⟩ | ⟨-, -, q, -⟩ | ⟨q, -, -, -, q1, -⟩
    · omega
    · omega
    · omega
    · rw [ztB_lt q, ← q1]
      exact g2
theorem px_num (hT : HT H) (ha : cAt H tx n s) (h : Pn none m 87 0 [(0, .ref 1)] [] H r H') : ((ztDg (ztB tx n s) ∧ r = .inl (some (.int (Int32.ofInt 1)))) ∨ (¬ ztDg (ztB tx n s) ∧ r = .inl (some (.int (Int32.ofInt 0))))) ∧ H' = H := by
  obtain ⟨a1, a2, a3, a4, k, v, e, a5, a6, a7, a8, a9⟩ := ha
  have hk := ztok_k a5
  have hb := x_num hT ⟨rfl, trivial⟩ h
  rw [a6, zz_eq] at hb
  have key : k = 2 ↔ ztDg (ztB tx n s) := by
    rcases a5 with ⟨q, q1, -⟩ | ⟨q, q1, q2, -⟩ | ⟨q, q1, q2, -⟩ | ⟨q, -, q1, q2, -⟩
    · rw [ztB_ge q]
      exact ⟨fun z => by omega, fun z => absurd z.1 (by decide)⟩
    · rw [ztB_lt q]
      exact ⟨fun z => by omega, fun z => by have := q1.1; have := z.2; omega⟩
    · rw [ztB_lt q]
      exact ⟨fun _ => q1, fun _ => q2⟩
    · rw [ztB_lt q]
      exact ⟨fun z => by omega, fun z => absurd z q1⟩
  rw [key] at hb
  rcases hb with ⟨g, e1, e2⟩ | ⟨g, e1, e2⟩
  · exact ⟨Or.inr ⟨g, e1⟩, e2⟩
  · exact ⟨Or.inl ⟨Classical.not_not.mp g, e1⟩, e2⟩
/-- the class has found a fault -/
def cBad (H : mjH) : Prop := gI H 1 3 = Int32.ofInt 4 ∧ ¬ gI H 1 8 = Int32.ofInt 0
theorem px_fail {y : Int} (hT : HT H) (ha : cAt H tx n s) (hy : 0 < y ∧ y < 100) (h : Pn none m 89 0 [(0, .ref 1), (1, .int (Int32.ofInt y))] [] H r H') : r = .inl none ∧ HT H' ∧ cBad H' := by
  obtain ⟨a1, a2, a3, a4, k, v, e, a5, a6, a7, a8, a9⟩ := ha
  have hk := ztok_k a5
  have hb := x_fail hT ⟨rfl, rfl, trivial⟩ h
  rw [a6, zz_eq] at hb
  rcases hb with ⟨g, -⟩ | ⟨-, e1, e2⟩
  · omega
  · have k1 := HT.pFI (x := Int32.ofInt 4) hT kF_1_3_6_false
    have k2 := HT.pFI (x := Int32.ofInt y) k1 kF_1_8_6_false
    rw [e2]
    refine ⟨e1, HT.pFI k2 kF_1_9_6_false, ?_, ?_⟩
    · rw [gI_ne (by omega), gI_ne (by omega), gI_fat hT kF_1_3_6_false]
    · rw [gI_ne (by omega), gI_fat k1 kF_1_8_6_false, zz_eq]
      omega
theorem px_bfail {y : Int32} (hT : HT H) (hb : cBad H) (h : Pn none m 89 0 [(0, .ref 1), (1, .int y)] [] H r H') : r = .inl none ∧ HT H' ∧ cBad H' := by
  have hb2 := x_fail hT ⟨rfl, rfl, trivial⟩ h
  rw [hb.1] at hb2
  rcases hb2 with ⟨-, e1, e2⟩ | ⟨g, -⟩
  · rw [e2]
    exact ⟨e1, hT, hb⟩
  · exact absurd rfl g
theorem px_bstep (hT : HT H) (hb : cBad H) (h : Pn none m 83 0 [(0, .ref 1)] [] H r H') : r = .inl none ∧ HT H' ∧ cBad H' := by
  have hb2 := x_st0 hT ⟨rfl, trivial⟩ h
  rw [hb.1] at hb2
  rcases hb2 with ⟨g, -⟩ | ⟨-, e1, e2⟩
  · exact absurd rfl g
  · rw [e2]
    exact ⟨e1, hT, hb⟩
/-- a sign is taken, or a fault found -/
theorem px_ts {c : Int} (hT : HT H) (hc : tcC H tx n) (ha : cAt H tx n s) (hs : sOk c) (h : Pn none m 90 0 [(0, .ref 1), (1, .int (Int32.ofInt c))] [] H r H') : r = .inl none ∧ HT H' ∧ ((ztB tx n s = c ∧ sFr H H' ∧ ∃ s', ztRun ztBl tx n (s + 1) s' ∧ cAt H' tx n s') ∨ (¬ ztB tx n s = c ∧ cBad H')) := by
  obtain ⟨L1, hL1, r2, H2, q, k⟩ := x_ts0 hT ⟨rfl, rfl, trivial⟩ h
  obtain ⟨d1, d2⟩ := px_sig hT ha hc hs q
  rcases d1 with ⟨g, d1⟩ | ⟨g, d1⟩
  · subst d1
    rw [d2] at k
    have hb := x_ts1 hT hL1 (pn_ret k)
    rcases hb with ⟨z, -⟩ | ⟨-, L2, hL2, r3, H3, q3, k3⟩
    · exact absurd z (by decide)
    obtain ⟨e, s', f1, f2, f3, f4, f5, f6⟩ := px_next hT hc ha q3
    subst f3
    obtain ⟨g1, g2⟩ := x_ts2 f4 hL2 (pn_ret k3)
    rw [g2]
    have he : e = s + 1 := by
      have hlt : s < n := by
        rcases Nat.lt_or_ge s n with z | z
        · exact z
        · rw [ztB_ge z] at g
          have := hs.2.2.2.1
          omega
      have e9 : (tx s : Int) = c := by rw [← ztB_lt hlt]; exact g
      exact ztEnd_un f1 ⟨3, tx s, Or.inr (Or.inr (Or.inr ⟨hlt, by rw [e9]; exact hs.1, by rw [e9]; exact hs.2.1, rfl, rfl, rfl⟩))⟩
    rw [he] at f2
    exact ⟨g1, f4, Or.inl ⟨g, f5, s', f2, f6⟩⟩
  · subst d1
    rw [d2] at k
    have hb := x_ts1 hT hL1 (pn_ret k)
    rcases hb with ⟨-, L2, hL2, r3, H3, q3, k3⟩ | ⟨z, -⟩
    · obtain ⟨f1, f2, f3⟩ := px_fail hT ha (by decide) q3
      subst f1
      obtain ⟨g1, g2⟩ := x_ts3 f2 hL2 (pn_ret k3)
      rw [g2]
      exact ⟨g1, f2, Or.inr ⟨g, f3⟩⟩
    · exact absurd rfl z
/-- a number is taken, or a fault found -/
theorem px_tn {l u : Int} (hT : HT H) (hc : tcC H tx n) (ha : cAt H tx n s) (hu : (0 ≤ l ∧ l ≤ 1000) ∧ 0 ≤ u ∧ u < 1000000) (h : Pn none m 92 0 [(0, .ref 1), (1, .int (Int32.ofInt l)), (2, .int (Int32.ofInt u))] [] H r H') :
    (∃ z, r = .inl (some (.int z))) ∧ HT H' ∧ ((∃ e s', ztRun ztDg tx n s e ∧ s < e ∧ (l ≤ nvF tx s (e - s) ∧ nvF tx s (e - s) ≤ u) ∧ r = .inl (some (.int (Int32.ofInt (nvF tx s (e - s))))) ∧ sFr H H' ∧ ztRun ztBl tx n e s' ∧ cAt H' tx n s') ∨ ((∀ e, ztRun ztDg tx n s e → ¬ (s < e ∧ l ≤ nvF tx s (e - s) ∧ nvF tx s (e - s) ≤ u)) ∧ cBad H')) := by
  have ha0 := ha
  obtain ⟨a1, a2, a3, a4, k, v, e, a5, a6, a7, a8, a9⟩ := ha
  have hk := ztok_k a5
  have hb := x_tn0 hT ⟨rfl, rfl, rfl, trivial⟩ h
  rw [a6, zz_eq] at hb
  -- it fails
  have bad : ∀ (y : Int) (z : Int32) (pc : Nat) (L' : mjL) (r2 : Option Value ⊕ Nat) (H2 : mjH), 0 < y ∧ y < 100 → Pn none m 89 0 [(0, .ref 1), (1, .int (Int32.ofInt y))] [] H r2 H2 → ((∃ v, r2 = .inl v ∧ Pn none m 92 pc L' (v.toList ++ []) H2 r H') ∨ (∃ E, r2 = .inr E ∧ r = .inr E ∧ H' = H2)) → (∀ H2, HT H2 → Pn none m 92 pc L' [] H2 r H' → r = .inl (some (.int z)) ∧ H' = H2) → (∃ z, r = .inl (some (.int z))) ∧ HT H' ∧ cBad H' := by
    intro y z pc L' r2 H2 hy q k0 hz
    obtain ⟨f1, f2, f3⟩ := px_fail hT ha0 hy q
    subst f1
    obtain ⟨g1, g2⟩ := hz H2 f2 (pn_ret k0)
    rw [g2]
    exact ⟨⟨z, g1⟩, f2, f3⟩
  rcases hb with ⟨c, hb⟩ | ⟨c, L', hL', r2, H2, q, k0⟩
  · have hrun : s < n ∧ ztDg (tx s : Int) ∧ v = imn (nvF tx s (e - s)) 1000000 ∧ ztRun ztDg tx n s e := by
      rcases a5 with ⟨-, q, -⟩ | ⟨-, -, q, -⟩ | ⟨q0, q1, -, q2, q3⟩ | ⟨-, -, -, q, -⟩
      · omega
      · omega
      · exact ⟨q0, q1, q2, q3⟩
      · omega
    obtain ⟨q0, q1, q2, q3⟩ := hrun
    have hse : s < e := by
      rcases Nat.lt_or_ge s e with z | z
      · exact z
      · have := q3.1
        have e0 : e = s := by omega
        have z2 := q3.2.2
        rw [e0, ztB_lt q0] at z2
        exact absurd q1 z2
    have hd : ∀ i, i < e - s → 48 ≤ (tx (s + i) : Int) := fun i hi => by
      have := q3.2.1 (s + i) (by omega) (by omega)
      rw [ztB_lt (by omega)] at this
      exact this.1
    have v0 := nvF_0 hd
    have vr := imn_rg (M := 1000000) v0 (by decide)
    have w1 : imn (nvF tx s (e - s)) 1000000 < l ↔ nvF tx s (e - s) < l := by
      unfold imn
      split <;> omega
    have w2 : imn (nvF tx s (e - s)) 1000000 ≤ u ↔ nvF tx s (e - s) ≤ u := imn_le hu.2.2
    rw [a7, q2, zz_lt, zz_le] at hb
    rcases hb with ⟨g, L', hL', r2, H2, q, k0⟩ | ⟨g, ⟨g2, L', hL', r2, H2, q, k0⟩ | ⟨g2, L', hL', r2, H2, q, k0⟩⟩
    · obtain ⟨b1, b2, b3⟩ := bad 2 _ 39 L' r2 H2 (by decide) q k0 (fun H2 t hz => x_tn2 t hL' hz)
      refine ⟨b1, b2, Or.inr ⟨fun e2 he2 z => ?_, b3⟩⟩
      rw [← ztRun_un q3 he2] at z
      omega
    · obtain ⟨e', s', f1, f2, f3, f4, f5, f6⟩ := px_next hT hc ha0 q
      subst f3
      obtain ⟨g1, g3⟩ := x_tn3 f4 hL' (pn_ret k0)
      rw [g3]
      have he : e' = e := ztEnd_un f1 ⟨k, v, a5⟩
      rw [he] at f2
      have ev : imn (nvF tx s (e - s)) 1000000 = nvF tx s (e - s) := by
        unfold imn
        rw [if_neg (by omega)]
      rw [ev] at g1
      exact ⟨⟨_, g1⟩, f4, Or.inl ⟨e, s', q3, hse, ⟨by omega, by omega⟩, g1, f5, f2, f6⟩⟩
    · obtain ⟨b1, b2, b3⟩ := bad 2 _ 39 L' r2 H2 (by decide) q k0 (fun H2 t hz => x_tn2 t hL' hz)
      refine ⟨b1, b2, Or.inr ⟨fun e2 he2 z => ?_, b3⟩⟩
      rw [← ztRun_un q3 he2] at z
      omega
  · obtain ⟨b1, b2, b3⟩ := bad 1 _ 15 L' r2 H2 (by decide) q k0 (fun H2 t hz => x_tn1 t hL' hz)
    refine ⟨b1, b2, Or.inr ⟨fun e2 he2 z => c ?_, b3⟩⟩
    have hz := he2.2.1 s (Nat.le_refl _) z.1
    rcases a5 with ⟨q, -⟩ | ⟨q, q1, -⟩ | ⟨-, -, q, -⟩ | ⟨q, -, q1, -⟩
    · rw [ztB_ge q] at hz
      exact absurd hz.1 (by decide)
    · rw [ztB_lt q] at hz
      have := q1.1
      have := hz.2
      omega
    · exact q
    · rw [ztB_lt q] at hz
      exact absurd hz q1
/-- it opens -/
theorem px_op {o : Nat} (hT : HT H) (hc : tcC H tx n) (ha : cAt H tx n s) (ho : gI H 1 7 = Int32.ofInt (o : Int)) (ho6 : o ≤ 6) (h : Pn none m 93 0 [(0, .ref 1)] [] H r H') :
    HT H' ∧ ((o < 6 ∧ r = .inl (some (.int (Int32.ofInt 1))) ∧ (∀ a b, ¬ (a = 1 ∧ 3 ≤ b ∧ b ≤ 7) → sxEl H' a b = sxEl H a b) ∧ gI H' 1 7 = Int32.ofInt ((o + 1 : Nat) : Int) ∧ ∃ e s', ztEnd tx n s e ∧ ztRun ztBl tx n e s' ∧ cAt H' tx n s') ∨ (6 ≤ o ∧ r = .inl (some (.int (Int32.ofInt 0))) ∧ cBad H')) := by
  have hb := x_op0 hT ⟨rfl, trivial⟩ h
  rw [ho, zz_lt, zz_add] at hb
  rcases hb with ⟨g, L', hL', r2, H2, q, k⟩ | ⟨g, L', hL', r2, H2, q, k⟩
  · have t1 := HT.pFI (x := Int32.ofInt ((o : Int) + 1)) hT kF_1_7_6_false
    have hF : ∀ a b, ¬ (a = 1 ∧ b = 7) → sxEl (pV H 1 7 (.int (Int32.ofInt ((o : Int) + 1)))) a b = sxEl H a b := fun a b z => sxEl_ne z
    have ha2 : cAt (pV H 1 7 (.int (Int32.ofInt ((o : Int) + 1)))) tx n s := by
      obtain ⟨a1, a2, a3, a4, k, v, e, a5, a6, a7, a8, a9⟩ := ha
      exact ⟨(gI_cgE (hF 1 2 (by omega))).trans a1, a2, a3, (gI_cgE (hF 1 4 (by omega))).trans a4, k, v, e, a5, (gI_cgE (hF 1 3 (by omega))).trans a6, (gI_cgE (hF 1 6 (by omega))).trans a7, (gI_cgE (hF 1 5 (by omega))).trans a8, a9⟩
    obtain ⟨e, s', f1, f2, f3, f4, f5, f6⟩ := px_next t1 (hc.cg (fun a b z => hF a b (by omega))) ha2 q
    subst f3
    obtain ⟨g1, g2⟩ := x_op2 f4 hL' (pn_ret k)
    rw [g2]
    refine ⟨f4, Or.inl ⟨by omega, g1, fun a b z => (f5 a b (by omega)).trans (hF a b (by omega)), ?_, e, s', f1, f2, f6⟩⟩
    rw [gI_cgE (f5 1 7 (by omega)), gI_fat hT kF_1_7_6_false]
    rfl
  · obtain ⟨f1, f2, f3⟩ := px_fail hT ha (by decide) q
    subst f1
    obtain ⟨g1, g2⟩ := x_op1 f2 hL' (pn_ret k)
    rw [g2]
    exact ⟨f2, Or.inr ⟨by omega, g1, f3⟩⟩
/-- the reference has found a fault -/
def rBad (H : mjH) : Prop := ¬ gI H 78 5 = Int32.ofInt 0
theorem py_wrong {y : Int} {p : Int32} (hT : HT H) (hy : 0 < y ∧ y < 100) (h : Pn none m 202 0 [(0, .ref 78), (1, .int (Int32.ofInt y)), (2, .int p)] [] H r H') : r = .inl none ∧ HT H' ∧ rBad H' := by
  have hb := y_wr hT ⟨rfl, rfl, rfl, trivial⟩ h
  rcases hb with ⟨g, e1, e2⟩ | ⟨g, e1, e2⟩
  · rw [e2]
    exact ⟨e1, hT, g⟩
  · have k1 := HT.pFI (x := Int32.ofInt y) hT kF_78_5_9_false
    rw [e2]
    refine ⟨e1, HT.pFI k1 kF_78_6_9_false, ?_⟩
    unfold rBad
    rw [gI_ne (by omega), gI_fat hT kF_78_5_9_false, zz_eq]
    omega
theorem py_sign {c : Int} (hT : HT H) (ha : rAt H tx n s) (h5 : gI H 78 5 = Int32.ofInt 0) (hc : 0 ≤ c ∧ c < 128) (h : Pn none m 211 0 [(0, .ref 78), (1, .int (Int32.ofInt c))] [] H r H') : r = .inl none ∧ HT H' ∧ ((ztB tx n s = c ∧ rFr H H' ∧ ∃ s', ztRun ztBl tx n (s + 1) s' ∧ rAt H' tx n s') ∨ (¬ ztB tx n s = c ∧ rBad H')) := by
  have hs := ha.le
  have hn := ha.1.1.1
  have hb := y_sg0 hT ⟨rfl, rfl, trivial⟩ h
  rw [h5] at hb
  rcases hb with ⟨-, L', hL, r2, H2, q, k⟩ | ⟨z, -⟩
  · obtain ⟨a1, a2, a3, a4, a5⟩ := rAt.bl hT ha q
    subst a1
    obtain ⟨L2, hL2, r3, H3, q3, k3⟩ := y_sg1 a2 hL (pn_ret k)
    rw [a4] at q3
    obtain ⟨b1, b2⟩ := py_by a2 a5 (by omega) q3
    subst b1
    rw [b2] at k3
    have hrg := ztB_rg a5 s
    have hb := y_sg2 a2 hL2 (pn_ret k3)
    rw [zz_eq, a4, zz_add] at hb
    rcases hb with ⟨g, L3, hL3, r4, H4, q4, k4⟩ | ⟨g, e1, e2⟩
    · obtain ⟨d1, d2, d3⟩ := py_wrong a2 (by decide) q4
      subst d1
      obtain ⟨e1, e2⟩ := y_sg3 d2 hL3 (pn_ret k4)
      rw [e2]
      exact ⟨e1, d2, Or.inr ⟨g, d3⟩⟩
    · have g := Classical.not_not.mp g
      have hlt : s < n := by
        rcases Nat.lt_or_ge s n with z | z
        · exact z
        · rw [ztB_ge z] at g
          omega
      have t1 := HT.pFI (x := Int32.ofInt ((s : Int) + 1)) a2 kF_78_4_9_false
      have hF : rFr H2 (pV H2 78 4 (.int (Int32.ofInt ((s : Int) + 1)))) := fun a b z => sxEl_ne z
      rw [e2]
      obtain ⟨s', f1, f2⟩ := rAt_of (tx := tx) (n := n) (e := s + 1) (hF.tk a5) (gI_fat a2 kF_78_4_9_false) hlt
      exact ⟨e1, t1, Or.inl ⟨g, a3.tr hF, s', f1, f2⟩⟩
  · exact absurd rfl z
theorem py_tsign {c : Int} (hT : HT H) (ha : rAt H tx n s) (h5 : gI H 78 5 = Int32.ofInt 0) (hc : 0 ≤ c ∧ c < 128) (h : Pn none m 212 0 [(0, .ref 78), (1, .int (Int32.ofInt c))] [] H r H') : HT H' ∧ rFr H H' ∧ ((ztB tx n s = c ∧ r = .inl (some (.int (Int32.ofInt 1))) ∧ ∃ s', ztRun ztBl tx n (s + 1) s' ∧ rAt H' tx n s') ∨ (¬ ztB tx n s = c ∧ r = .inl (some (.int (Int32.ofInt 0))) ∧ rAt H' tx n s)) := by
  have hs := ha.le
  have hn := ha.1.1.1
  have hb := y_tg0 hT ⟨rfl, rfl, trivial⟩ h
  rw [h5] at hb
  rcases hb with ⟨-, L', hL, r2, H2, q, k⟩ | ⟨z, -⟩
  · obtain ⟨a1, a2, a3, a4, a5⟩ := rAt.bl hT ha q
    subst a1
    obtain ⟨L2, hL2, r3, H3, q3, k3⟩ := y_tg1 a2 hL (pn_ret k)
    rw [a4] at q3
    obtain ⟨b1, b2⟩ := py_by a2 a5 (by omega) q3
    subst b1
    rw [b2] at k3
    have hrg := ztB_rg a5 s
    have hb := y_tg2 a2 hL2 (pn_ret k3)
    rw [zz_eq, a4, zz_add] at hb
    rcases hb with ⟨g, e1, e2⟩ | ⟨g, e1, e2⟩
    · rw [e2]
      exact ⟨a2, a3, Or.inr ⟨g, e1, rAt_at a5 a4 hs ha.nb⟩⟩
    · have g := Classical.not_not.mp g
      have hlt : s < n := by
        rcases Nat.lt_or_ge s n with z | z
        · exact z
        · rw [ztB_ge z] at g
          omega
      have t1 := HT.pFI (x := Int32.ofInt ((s : Int) + 1)) a2 kF_78_4_9_false
      have hF : rFr H2 (pV H2 78 4 (.int (Int32.ofInt ((s : Int) + 1)))) := fun a b z => sxEl_ne z
      rw [e2]
      obtain ⟨s', f1, f2⟩ := rAt_of (tx := tx) (n := n) (e := s + 1) (hF.tk a5) (gI_fat a2 kF_78_4_9_false) hlt
      exact ⟨t1, a3.tr hF, Or.inl ⟨g, e1, s', f1, f2⟩⟩
  · exact absurd rfl z
end PCTN

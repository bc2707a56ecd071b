/-! PC: texts: the reference's numbers, what opens -/
section PCNU
variable {m : Nat} {L : mjL} {H H' H0 H1 : mjH} {r : Option Value ⊕ Nat} {tx : Nat → Nat} {n s : Nat}
theorem py_in {v l u : Int} (hT : HT H) (hv : (-2147483648 ≤ v ∧ v < 2147483648) ∧ (-2147483648 ≤ l ∧ l < 2147483648) ∧ (-2147483648 ≤ u ∧ u < 2147483648)) (h : Pn none m 198 0 [(0, .int (Int32.ofInt v)), (1, .int (Int32.ofInt l)), (2, .int (Int32.ofInt u))] [] H r H') : (((l ≤ v ∧ v ≤ u) ∧ r = .inl (some (.int (Int32.ofInt 1)))) ∨ (¬ (l ≤ v ∧ v ≤ u) ∧ r = .inl (some (.int (Int32.ofInt 0))))) ∧ H' = H := by
  have hb := y_in hT ⟨rfl, rfl, rfl, trivial⟩ h
  rw [zz_lt, zz_lt] at hb
  rcases hb with ⟨g, e1, e2⟩ | ⟨g, ⟨g2, e1, e2⟩ | ⟨g2, e1, e2⟩⟩
  · exact ⟨Or.inr ⟨by omega, e1⟩, e2⟩
  · exact ⟨Or.inr ⟨by omega, e1⟩, e2⟩
  · exact ⟨Or.inl ⟨by omega, e1⟩, e2⟩
/-- on over the digits -/
theorem py_nuL {l u : Int} {z0 : Int32} : ∀ (m a : Nat) (L : mjL) (H : mjH), HT H → tcR H tx n → rFr H0 H → gI H 78 4 = Int32.ofInt (a : Int) → s ≤ a → a ≤ n → (∀ i, s ≤ i → i < a → ztDg (ztB tx n i)) → LG L [(0, .ref 78), (1, .int (Int32.ofInt l)), (2, .int (Int32.ofInt u)), (3, .int z0), (4, .int (Int32.ofInt (imn (nvF tx s (a - s)) 100000)))] → Pn none m 205 44 L [] H r H' →
    ∃ (e : Nat) (m' : Nat) (L' : mjL) (H2 : mjH) (r2 : Option Value ⊕ Nat) (H3 : mjH), ztRun ztDg tx n s e ∧ e ≤ n ∧ HT H2 ∧ rFr H0 H2 ∧ gI H2 78 4 = Int32.ofInt (e : Int) ∧ LG L' [(0, .ref 78), (3, .int z0), (4, .int (Int32.ofInt (imn (nvF tx s (e - s)) 100000)))] ∧ Pn none m' 198 0 [(0, .int (Int32.ofInt (imn (nvF tx s (e - s)) 100000))), (1, .int (Int32.ofInt l)), (2, .int (Int32.ofInt u))] [] H2 r2 H3 ∧ ((∃ v, r2 = .inl v ∧ Pn none m' 205 113 L' (v.toList ++ []) H3 r H') ∨ (∃ E, r2 = .inr E ∧ r = .inr E ∧ H' = H3))
  | 0, _, _, _, _, _, _, _, _, _, _, _, h => Pn0 h
  | m + 1, a, L, H, hT, hc, hF, h4, hsa, han, hr, hL, h => by
    have hn := hc.1.1
    obtain ⟨L', hL', r2, H2, q, k⟩ := y_nuL hT hL h
    rw [h4] at q
    obtain ⟨d1, d2⟩ := py_by hT hc (by omega) q
    subst d1
    rw [d2] at k
    obtain ⟨L2, hL2, r3, H3, q3, k3⟩ := y_nu5 hT hL' (pn_ret k)
    obtain ⟨d3, d4⟩ := py_dg (ztB_rg hc a) hT q3
    rw [d4] at k3
    rcases d3 with ⟨c, d3⟩ | ⟨c, d3⟩
    · subst d3
      have hlt : a < n := by
        rcases Nat.lt_or_ge a n with g | g
        · exact g
        · rw [ztB_ge g] at c
          exact absurd c.1 (by decide)
      have hb := y_nu6 hT hL2 (pn_ret k3)
      rw [h4] at hb
      rcases hb with ⟨z, -⟩ | ⟨-, L3, hL3, r4, H4, q4, k4⟩
      · exact absurd z (by decide)
      obtain ⟨d5, d6⟩ := py_by hT hc (by omega) q4
      subst d5
      rw [d6] at k4
      have dg : ∀ i, i < a - s → 48 ≤ (tx (s + i) : Int) := fun i hi => by
        have := hr (s + i) (by omega) (by omega)
        rw [ztB_lt (by omega)] at this
        exact this.1
      have v0 := nvF_0 dg
      have vr := imn_rg (M := 100000) v0 (by decide)
      have c2 := c
      rw [ztB_lt hlt] at c2
      have hb := y_nu7 (l := Int32.ofInt l) (u := Int32.ofInt u) (p := z0) hT ⟨hL3.1, hL3.2.1, hL3.2.2.1, hL3.2.2.2.1, trivial⟩ (pn_ret k4)
      rw [ztB_lt hlt, zz_mul, zz_add, zz_sub, zz_le (h1 := by omega) (h2 := by have := c2.2; omega), h4, zz_add] at hb
      have hs1 : Int32.ofInt ((a : Int) + 1) = Int32.ofInt ((a + 1 : Nat) : Int) := rfl
      rw [hs1] at hb
      have ev : imn (nvF tx s (a + 1 - s)) 100000 = if 10 * imn (nvF tx s (a - s)) 100000 + (tx a : Int) - 48 ≤ 100000 then 10 * imn (nvF tx s (a - s)) 100000 + (tx a : Int) - 48 else 100000 := by
        rw [show a + 1 - s = (a - s) + 1 by omega]
        show imn (10 * nvF tx s (a - s) + ((tx (s + (a - s)) : Int) - 48)) 100000 = _
        rw [show s + (a - s) = a by omega, ← imn_step v0 (by have := c2.1; omega) (by decide)]
        generalize imn (nvF tx s (a - s)) 100000 = q at vr
        unfold imn
        split <;> split <;> omega
      have goon : ∀ (L5 : mjL), LG L5 [(0, .ref 78), (1, .int (Int32.ofInt l)), (2, .int (Int32.ofInt u)), (3, .int z0), (4, .int (Int32.ofInt (imn (nvF tx s (a + 1 - s)) 100000)))] → Pn none m 205 44 L5 [] (pV H 78 4 (.int (Int32.ofInt ((a + 1 : Nat) : Int)))) r H' → _ := fun L5 hL5 h5 => py_nuL m (a + 1) L5 _ (HT.pFI hT kF_78_4_9_false) (hc.cg (fun x y q => sxEl_ne (by omega))) (fun x y q => (sxEl_ne (by omega)).trans (hF x y q)) (gI_fat hT kF_78_4_9_false) (by omega) hlt (fun i h1 h3 => by
        by_cases q : i = a
        · rw [q]
          exact c
        · exact hr i h1 (by omega)) hL5 h5
      rcases hb with ⟨g, L5, hL5, h5⟩ | ⟨g, L5, hL5, h5⟩
      · refine goon L5 ?_ h5
        rw [ev, if_pos g]
        exact hL5
      · refine goon L5 ?_ h5
        rw [ev, if_neg g]
        exact hL5
    · subst d3
      have hb := y_nu6 hT hL2 (pn_ret k3)
      rcases hb with ⟨-, L3, hL3, r4, H4, q4, k4⟩ | ⟨z, -⟩
      · exact ⟨a, m, L3, H, r4, H4, ⟨hsa, hr, c⟩, han, hT, hF, h4, hL3, q4, k4⟩
      · exact absurd rfl z
theorem py_number {l u : Int} (hT : HT H) (ha : rAt H tx n s) (h5 : gI H 78 5 = Int32.ofInt 0) (hu : (0 ≤ l ∧ l ≤ 1000) ∧ 0 ≤ u ∧ u < 100000) (h : Pn none m 205 0 [(0, .ref 78), (1, .int (Int32.ofInt l)), (2, .int (Int32.ofInt u))] [] H r H') :
    (∃ z, r = .inl (some (.int z))) ∧ HT H' ∧ ((∃ e s', ztRun ztDg tx n s e ∧ s < e ∧ (l ≤ nvF tx s (e - s) ∧ nvF tx s (e - s) ≤ u) ∧ r = .inl (some (.int (Int32.ofInt (nvF tx s (e - s))))) ∧ rFr H H' ∧ gI H' 78 5 = Int32.ofInt 0 ∧ ztRun ztBl tx n e s' ∧ rAt H' tx n s') ∨ ((∀ e, ztRun ztDg tx n s e → ¬ (s < e ∧ l ≤ nvF tx s (e - s) ∧ nvF tx s (e - s) ≤ u)) ∧ rBad H')) := by
  have hs := ha.le
  have hn := ha.1.1.1
  have hb := y_nu0 hT ⟨rfl, rfl, rfl, trivial⟩ h
  rw [h5] at hb
  rcases hb with ⟨-, L1, hL1, r2, H2, q, k⟩ | ⟨z, -⟩
  · obtain ⟨a1, a2, a3, a4, a5⟩ := rAt.bl hT ha q
    subst a1
    obtain ⟨L2, hL2, r3, H3, q3, k3⟩ := y_nu1 a2 hL1 (pn_ret k)
    rw [a4] at q3 hL2
    obtain ⟨b1, b2⟩ := py_by a2 a5 (by omega) q3
    subst b1
    rw [b2] at k3
    obtain ⟨L3, hL3, r4, H4, q4, k4⟩ := y_nu2 a2 hL2 (pn_ret k3)
    obtain ⟨c1, c2⟩ := py_dg (ztB_rg a5 s) a2 q4
    rw [c2] at k4
    have f5 : gI H2 78 5 = Int32.ofInt 0 := (gI_cgE (a3 78 5 (by omega))).trans h5
    -- behind the digits
    have tail : ∀ (G : mjH) (m' : Nat) (e : Nat) (L' : mjL) (H5 : mjH) (r5 : Option Value ⊕ Nat) (H6 : mjH), ztRun ztDg tx n s e → e ≤ n → HT H5 → rFr G H5 → tcR G tx n → gI H5 78 4 = Int32.ofInt (e : Int) → LG L' [(0, .ref 78), (3, .int (Int32.ofInt (s : Int))), (4, .int (Int32.ofInt (imn (nvF tx s (e - s)) 100000)))] → Pn none m' 198 0 [(0, .int (Int32.ofInt (imn (nvF tx s (e - s)) 100000))), (1, .int (Int32.ofInt l)), (2, .int (Int32.ofInt u))] [] H5 r5 H6 → ((∃ v, r5 = .inl v ∧ Pn none m' 205 113 L' (v.toList ++ []) H6 r H') ∨ (∃ E, r5 = .inr E ∧ r = .inr E ∧ H' = H6)) →
        (∃ z, r = .inl (some (.int z))) ∧ HT H' ∧ ((gI H5 78 5 = Int32.ofInt 0 ∧ (l ≤ nvF tx s (e - s) ∧ nvF tx s (e - s) ≤ u) ∧ r = .inl (some (.int (Int32.ofInt (nvF tx s (e - s))))) ∧ H' = H5) ∨ ((¬ gI H5 78 5 = Int32.ofInt 0 ∨ ¬ (l ≤ nvF tx s (e - s) ∧ nvF tx s (e - s) ≤ u)) ∧ rBad H')) := by
      intro G m' e L' H5 r5 H6 t1 t2 t3 t4 tc t5 t6 t7 t8
      have dg : ∀ i, i < e - s → 48 ≤ (tx (s + i) : Int) := fun i hi => by
        have := t1.2.1 (s + i) (by omega) (by omega)
        rw [ztB_lt (by omega)] at this
        exact this.1
      have v0 := nvF_0 dg
      have vr := imn_rg (M := 100000) v0 (by decide)
      obtain ⟨w1, w2⟩ := py_in t3 ⟨⟨by omega, by omega⟩, ⟨by omega, by omega⟩, by omega, by omega⟩ t7
      rw [w2] at t8
      have eqv : (l ≤ imn (nvF tx s (e - s)) 100000 ∧ imn (nvF tx s (e - s)) 100000 ≤ u) ↔ (l ≤ nvF tx s (e - s) ∧ nvF tx s (e - s) ≤ u) := by
        unfold imn
        split <;> omega
      rcases w1 with ⟨g, w1⟩ | ⟨g, w1⟩
      · subst w1
        have hb := y_nu8 t3 t6 (pn_ret t8)
        have g2 := eqv.mp g
        have ev : imn (nvF tx s (e - s)) 100000 = nvF tx s (e - s) := by
          unfold imn
          rw [if_neg (by omega)]
        rw [ev] at hb
        rcases hb with ⟨-, ⟨z, e1, e2⟩ | ⟨z, e1, e2⟩⟩ | ⟨z, -⟩
        · rw [e2]
          exact ⟨⟨_, e1⟩, t3, Or.inr ⟨Or.inl z, z⟩⟩
        · rw [e2]
          exact ⟨⟨_, e1⟩, t3, Or.inl ⟨Classical.not_not.mp z, g2, e1, rfl⟩⟩
        · exact absurd (show ¬ Int32.ofInt 1 = Int32.ofInt 0 by decide) z
      · subst w1
        have hb := y_nu8 t3 t6 (pn_ret t8)
        rcases hb with ⟨z, -⟩ | ⟨-, L7, hL7, r8, H8, q8, k8⟩
        · exact absurd rfl z
        · obtain ⟨x1, x2, x3⟩ := py_wrong t3 (by decide) q8
          subst x1
          have hb := y_nu9 x2 hL7 (pn_ret k8)
          have nb : ¬ (l ≤ nvF tx s (e - s) ∧ nvF tx s (e - s) ≤ u) := fun z => g (eqv.mpr z)
          rcases hb with ⟨z, e1, e2⟩ | ⟨z, e1, e2⟩
          · rw [e2]
            exact ⟨⟨_, e1⟩, x2, Or.inr ⟨Or.inr nb, x3⟩⟩
          · exact absurd (Classical.not_not.mp z) x3
    rcases c1 with ⟨c, c1⟩ | ⟨c, c1⟩
    · subst c1
      have hb := y_nu3 a2 hL3 (pn_ret k4)
      rcases hb with ⟨-, L5, hL5, h6⟩ | ⟨z, -⟩
      · obtain ⟨e, m', L6, H6, r6, H7, t1, t2, t3, t4, t5, t6, t7, t8⟩ := py_nuL (tx := tx) (n := n) (s := s) (l := l) (u := u) (H0 := H2) m s L5 H2 a2 a5 rFr.rf a4 (Nat.le_refl _) hs (fun i h1 h3 => absurd h1 (by omega)) (by rw [Nat.sub_self]; exact hL5) h6
        obtain ⟨x1, x2, x3⟩ := tail H2 m' e L6 H6 r6 H7 t1 t2 t3 t4 a5 t5 t6 t7 t8
        have f6 : gI H6 78 5 = Int32.ofInt 0 := (gI_cgE (t4 78 5 (by omega))).trans f5
        have hse : s < e := by
          rcases Nat.lt_or_ge s e with z | z
          · exact z
          · have := t1.1
            have e0 : e = s := by omega
            have z2 := t1.2.2
            rw [e0] at z2
            exact absurd c z2
        refine ⟨x1, x2, ?_⟩
        rcases x3 with ⟨-, y1, y2, y3⟩ | ⟨y1, y2⟩
        · obtain ⟨s', z1, z2⟩ := rAt_of (tx := tx) (n := n) (e := e) (t4.tk a5) t5 t2
          rw [y3]
          exact Or.inl ⟨e, s', t1, hse, y1, y2, a3.tr t4, f6, z1, z2⟩
        · refine Or.inr ⟨fun e2 he2 z => ?_, y2⟩
          rw [← ztRun_un t1 he2] at z
          rcases y1 with y1 | y1
          · exact y1 f6
          · exact y1 z.2
      · exact absurd (show ¬ Int32.ofInt 1 = Int32.ofInt 0 by decide) z
    · subst c1
      have hb := y_nu3 a2 hL3 (pn_ret k4)
      rcases hb with ⟨z, -⟩ | ⟨-, L5, hL5, r6, H6, q6, k6⟩
      · exact absurd rfl z
      · rw [a4] at q6
        obtain ⟨x1, x2, x3⟩ := py_wrong a2 (by decide) q6
        have hb6 := y_wr a2 ⟨rfl, rfl, rfl, trivial⟩ q6
        rw [f5] at hb6
        rcases hb6 with ⟨z, -⟩ | ⟨-, -, e6⟩
        · exact absurd rfl z
        subst x1
        have fr6 : ∀ a b, ¬ (a = 78 ∧ (b = 5 ∨ b = 6)) → sxEl H6 a b = sxEl H2 a b := fun a b z => by
          rw [e6, sxEl_ne (by omega), sxEl_ne (by omega)]
        have tc6 : tcR H6 tx n := a5.cg (fun a b z => fr6 a b (by omega))
        obtain ⟨e, m', L7, H7, r7, H8, t1, t2, t3, t4, t5, t6, t7, t8⟩ := py_nuL (tx := tx) (n := n) (s := s) (l := l) (u := u) (H0 := H6) m s L5 H6 x2 tc6 rFr.rf ((gI_cgE (fr6 78 4 (by omega))).trans a4) (Nat.le_refl _) hs (fun i h1 h3 => absurd h1 (by omega)) (by rw [Nat.sub_self]; exact hL5) (pn_ret k6)
        obtain ⟨y1, y2, y3⟩ := tail H6 m' e L7 H7 r7 H8 t1 t2 t3 t4 tc6 t5 t6 t7 t8
        have f7 : ¬ gI H7 78 5 = Int32.ofInt 0 := by
          rw [gI_cgE (t4 78 5 (by omega))]
          exact x3
        refine ⟨y1, y2, Or.inr ⟨fun e2 he2 z => ?_, ?_⟩⟩
        · exact c (he2.2.1 s (Nat.le_refl _) z.1)
        · rcases y3 with ⟨y4, -⟩ | ⟨-, y4⟩
          · exact absurd y4 f7
          · exact y4
  · exact absurd rfl z
theorem py_op {o : Nat} (hT : HT H) (ha : rAt H tx n s) (h5 : gI H 78 5 = Int32.ofInt 0) (ho : gI H 78 8 = Int32.ofInt (o : Int)) (ho6 : o ≤ 6) (h : Pn none m 213 0 [(0, .ref 78)] [] H r H') :
    HT H' ∧ ((o < 6 ∧ r = .inl (some (.int (Int32.ofInt 1))) ∧ (∀ a b, ¬ (a = 78 ∧ b = 8) → sxEl H' a b = sxEl H a b) ∧ gI H' 78 8 = Int32.ofInt ((o + 1 : Nat) : Int)) ∨ (6 ≤ o ∧ r = .inl (some (.int (Int32.ofInt 0))) ∧ rBad H')) := by
  have hb := y_op0 hT ⟨rfl, trivial⟩ h
  rw [h5, ho, zz_add, zz_eq (a := (o : Int)) (b := 6)] at hb
  have n0 : ¬ ¬ (Int32.ofInt 0 = Int32.ofInt 0) := fun z => z rfl
  have t1 := HT.pFI (x := Int32.ofInt ((o : Int) + 1)) hT kF_78_8_9_false
  rcases hb with ⟨z, -⟩ | ⟨-, ⟨g, ⟨z, -⟩ | ⟨-, ⟨z, -⟩ | ⟨-, e1, e2⟩⟩⟩ | ⟨g, L', hL, r2, H2, q, k⟩⟩
  · exact absurd z n0
  · exact absurd z n0
  · exact absurd z n0
  · rw [e2]
    exact ⟨t1, Or.inl ⟨by omega, e1, fun a b z => sxEl_ne z, gI_fat hT kF_78_8_9_false⟩⟩
  · have g := Classical.not_not.mp g
    obtain ⟨x1, x2, x3⟩ := py_wrong hT (by decide) q
    subst x1
    have hb := y_op1 x2 hL (pn_ret k)
    rcases hb with ⟨z, e1, e2⟩ | ⟨z, -⟩
    · rw [e2]
      exact ⟨x2, Or.inr ⟨by omega, e1, x3⟩⟩
    · exact absurd (Classical.not_not.mp z) x3
end PCNU

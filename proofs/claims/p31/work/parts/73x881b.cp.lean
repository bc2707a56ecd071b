/-! PC: the reference lays its rules, as read -/
section PCCP
variable {H' : mjH} {r : Option Value ⊕ Nat}
theorem wcK {i : Nat} (h : i < 10) : kA (96 + i) 100 3 false = true := List.all_eq_true.mp (show (List.range 10).all (fun j => kA (96 + j) 100 3 false) = true by decide +kernel) i (List.mem_range.mpr h)
def wcIv (H0 : mjH) (i j : Nat) (H : mjH) : Prop := HT H ∧ (∀ a b, ¬ (96 ≤ a ∧ a < 96 + 10) → sxEl H a b = sxEl H0 a b) ∧ (∀ i' b, i' < i → b < 3 → gI H (96 + i') b = gI H0 (107 + i') b) ∧ ∀ b, b < j → gI H (96 + i) b = gI H0 (107 + i) b

def wcCl (H0 : mjH) (K : Nat) (r : Option Value ⊕ Nat) (H' : mjH) : Prop := ∃ (mx : Nat) (Lx : mjL) (Hx : mjH), HT Hx ∧ (∀ a b, ¬ (96 ≤ a ∧ a < 96 + 10) → sxEl Hx a b = sxEl H0 a b) ∧ (∀ i' b, i' < K → b < 3 → gI Hx (96 + i') b = gI H0 (107 + i') b) ∧ LG Lx [(0, .ref 78), (2, .int (Int32.ofInt 0))] ∧ Pn none mx 236 170 Lx [] Hx r H'
theorem wcLp {H0 : mjH} {K : Nat} (hK : K ≤ 10) (h0 : gI H0 78 25 = Int32.ofInt (K : Int)) : ∀ (m : Nat), (∀ (i : Nat) (L : mjL) (H : mjH), i ≤ K → wcIv H0 i 0 H → LG L [(0, .ref 78), (2, .int (Int32.ofInt (i : Int)))] → Pn none m 236 125 L [] H r H' → wcCl H0 K r H') ∧ (∀ (i j : Nat) (L : mjL) (H : mjH), i < K → j ≤ 3 → wcIv H0 i j H → LG L [(0, .ref 78), (2, .int (Int32.ofInt (i : Int))), (3, .int (Int32.ofInt (j : Int)))] → Pn none m 236 135 L [] H r H' → wcCl H0 K r H')
  | 0 => ⟨fun _ _ _ _ _ _ h => Pn0 h, fun _ _ _ _ _ _ _ _ h => Pn0 h⟩
  | m + 1 => by
    obtain ⟨ih1, ih2⟩ := wcLp hK h0 m
    refine ⟨fun i L H hi hv hL h => ?_, fun i j L H hi hj hv hL h => ?_⟩
    · have hb := h_tL1 hv.1 hL h
      rw [(gI_cgE (hv.2.1 78 25 (by omega))).trans h0, zz_le] at hb
      rcases hb with ⟨g, L', hL', h'⟩ | ⟨g, L', hL', h'⟩
      · have e : i = K := by omega
        rw [e] at hv
        exact ⟨_, L', H, hv.1, hv.2.1, hv.2.2.1, hL', h'⟩
      · exact ih2 i 0 L' H (by omega) (by omega) hv hL' h'
    · have hb := h_tL2 hv.1 hL h
      rw [zz_le] at hb
      rcases hb with ⟨g, L', hL', h'⟩ | ⟨g, -, -, L', hL', h'⟩
      · have e : j = 3 := by omega
        rw [e] at hv
        rw [zz_add] at hL'
        have e1 : ((i : Int) + 1) = ((i + 1 : Nat) : Int) := by omega
        rw [e1] at hL'
        refine ih1 (i + 1) L' H (by omega) ⟨hv.1, hv.2.1, fun i' b hi' hb' => ?_, fun b hb' => absurd hb' (Nat.not_lt_zero _)⟩ hL' h'
        rcases Nat.lt_or_ge i' i with g2 | g2
        · exact hv.2.2.1 i' b g2 hb'
        · have e2 : i' = i := by omega
          rw [e2]
          exact hv.2.2.2 b hb'
      · rw [zz_cn, zz_cn] at h'
        rw [zz_add] at hL'
        have e1 : ((j : Int) + 1) = ((j + 1 : Nat) : Int) := by omega
        rw [e1] at hL'
        have kk := wcK (i := i) (by omega)
        refine ih2 i (j + 1) L' _ hi (by omega) ⟨HT.pI hv.1 kk, fun a b z => ?_, fun i' b hi' hb' => ?_, fun b hb' => ?_⟩ hL' h'
        · rw [sxEl_ne (by omega)]
          exact hv.2.1 a b z
        · rw [gI_ne (by omega)]
          exact hv.2.2.1 i' b hi' hb'
        · rcases Nat.lt_or_ge b j with g2 | g2
          · rw [gI_ne (by omega)]
            exact hv.2.2.2 b g2
          · have e2 : b = j := by omega
            rw [e2, gI_at hv.1 kk (by omega)]
            exact gI_cgE (hv.2.1 (107 + i) j (by omega))

theorem ccK {i : Nat} (h : i < 220) : kA (118 + i) 100 2 false = true := List.all_eq_true.mp (show (List.range 220).all (fun j => kA (118 + j) 100 2 false) = true by decide +kernel) i (List.mem_range.mpr h)
def ccIv (H0 : mjH) (i j : Nat) (H : mjH) : Prop := HT H ∧ (∀ a b, ¬ (118 ≤ a ∧ a < 118 + 220) → sxEl H a b = sxEl H0 a b) ∧ (∀ i' b, i' < i → b < 2 → gI H (118 + i') b = gI H0 (339 + i') b) ∧ ∀ b, b < j → gI H (118 + i) b = gI H0 (339 + i) b

def ccCl (H0 : mjH) (K : Nat) (r : Option Value ⊕ Nat) (H' : mjH) : Prop := r = .inl (some (.int (gI H0 78 25))) ∧ HT H' ∧ (∀ a b, ¬ (118 ≤ a ∧ a < 118 + 220) → sxEl H' a b = sxEl H0 a b) ∧ ∀ i' b, i' < K → b < 2 → gI H' (118 + i') b = gI H0 (339 + i') b
theorem ccLp {H0 : mjH} {K : Nat} (hK : K ≤ 220) (h0 : gI H0 78 27 = Int32.ofInt (K : Int)) : ∀ (m : Nat), (∀ (i : Nat) (L : mjL) (H : mjH), i ≤ K → ccIv H0 i 0 H → LG L [(0, .ref 78), (2, .int (Int32.ofInt (i : Int)))] → Pn none m 236 170 L [] H r H' → ccCl H0 K r H') ∧ (∀ (i j : Nat) (L : mjL) (H : mjH), i < K → j ≤ 2 → ccIv H0 i j H → LG L [(0, .ref 78), (2, .int (Int32.ofInt (i : Int))), (3, .int (Int32.ofInt (j : Int)))] → Pn none m 236 180 L [] H r H' → ccCl H0 K r H')
  | 0 => ⟨fun _ _ _ _ _ _ h => Pn0 h, fun _ _ _ _ _ _ _ _ h => Pn0 h⟩
  | m + 1 => by
    obtain ⟨ih1, ih2⟩ := ccLp hK h0 m
    refine ⟨fun i L H hi hv hL h => ?_, fun i j L H hi hj hv hL h => ?_⟩
    · have hb := h_tL3 hv.1 hL h
      rw [(gI_cgE (hv.2.1 78 27 (by omega))).trans h0, zz_le] at hb
      rcases hb with ⟨g, e1, e2⟩ | ⟨g, L', hL', h'⟩
      · have e : i = K := by omega
        rw [e] at hv
        exact ⟨by rw [e1, gI_cgE (hv.2.1 78 25 (by omega))], by rw [e2]; exact hv.1, fun a b z => by rw [e2]; exact hv.2.1 a b z, fun i' b z1 z2 => by rw [e2]; exact hv.2.2.1 i' b z1 z2⟩
      · exact ih2 i 0 L' H (by omega) (by omega) hv hL' h'
    · have hb := h_tL4 hv.1 hL h
      rw [zz_le] at hb
      rcases hb with ⟨g, L', hL', h'⟩ | ⟨g, -, -, L', hL', h'⟩
      · have e : j = 2 := by omega
        rw [e] at hv
        rw [zz_add] at hL'
        have e1 : ((i : Int) + 1) = ((i + 1 : Nat) : Int) := by omega
        rw [e1] at hL'
        refine ih1 (i + 1) L' H (by omega) ⟨hv.1, hv.2.1, fun i' b hi' hb' => ?_, fun b hb' => absurd hb' (Nat.not_lt_zero _)⟩ hL' h'
        rcases Nat.lt_or_ge i' i with g2 | g2
        · exact hv.2.2.1 i' b g2 hb'
        · have e2 : i' = i := by omega
          rw [e2]
          exact hv.2.2.2 b hb'
      · rw [zz_cn, zz_cn] at h'
        rw [zz_add] at hL'
        have e1 : ((j : Int) + 1) = ((j + 1 : Nat) : Int) := by omega
        rw [e1] at hL'
        have kk := ccK (i := i) (by omega)
        refine ih2 i (j + 1) L' _ hi (by omega) ⟨HT.pI hv.1 kk, fun a b z => ?_, fun i' b hi' hb' => ?_, fun b hb' => ?_⟩ hL' h'
        · rw [sxEl_ne (by omega)]
          exact hv.2.1 a b z
        · rw [gI_ne (by omega)]
          exact hv.2.2.1 i' b hi' hb'
        · rcases Nat.lt_or_ge b j with g2 | g2
          · rw [gI_ne (by omega)]
            exact hv.2.2.2 b g2
          · have e2 : b = j := by omega
            rw [e2, gI_at hv.1 kk (by omega)]
            exact gI_cgE (hv.2.1 (339 + i) j (by omega))

/-- all of it, from behind the last rule -/
theorem rLay {m : Nat} {L : mjL} {H : mjH} {tx : Nat → Nat} {n : Nat} {ru : tgRu} (hp : rP H (ruS ru) tx n n 0) (hu : rRu H ru) (hL : LG L [(0, .ref 78)]) (h : Pn none m 236 55 L [] H r H') : (∃ z, r = .inl (some (.int z))) ∧ HT H' ∧ (∀ a b, ¬ (a = 78 ∧ (b = 3 ∨ b = 25 ∨ b = 27)) → ¬ (96 ≤ a ∧ a < 106) → ¬ (118 ≤ a ∧ a < 338) → sxEl H' a b = sxEl H a b) ∧ tmRu H' ru (frO ru) ∧ ruB ru := by
  cases m with
  | zero => exact Pn0 h
  | succ m =>
  have hb := ((h_tL hp.1 hL h).resolve_left (fun z => z.1 hp.2.2.1)).2
  rw [hp.2.1.1.1.2, hp.2.1.2.2.1, zz_le] at hb
  obtain ⟨-, hb⟩ := hb.resolve_right (fun z => z.1 (by omega))
  obtain ⟨-, L1, hL1, h1⟩ := hb.resolve_right (fun z => z.1 hp.2.2.1)
  have t1 := HT.pFI (x := gI H 78 6) hp.1 kF_78_3_9_false
  have t2 := HT.pFI (x := gI H 78 26) t1 kF_78_25_9_false
  have t3 := HT.pFI (x := gI H 78 28) t2 kF_78_27_9_false
  have hF : ∀ a b, ¬ (a = 78 ∧ (b = 3 ∨ b = 25 ∨ b = 27)) → sxEl (pV (pV (pV H 78 3 (.int (gI H 78 6))) 78 25 (.int (gI H 78 26))) 78 27 (.int (gI H 78 28))) a b = sxEl H a b := fun a b z => by rw [sxEl_ne (by omega), sxEl_ne (by omega), sxEl_ne (by omega)]
  have e25 : gI (pV (pV (pV H 78 3 (.int (gI H 78 6))) 78 25 (.int (gI H 78 26))) 78 27 (.int (gI H 78 28))) 78 25 = Int32.ofInt (ru.length : Int) := by
    rw [gI_ne (by omega), gI_fat t1 kF_78_25_9_false]
    exact hu.1
  have e27 : gI (pV (pV (pV H 78 3 (.int (gI H 78 6))) 78 25 (.int (gI H 78 26))) 78 27 (.int (gI H 78 28))) 78 27 = Int32.ofInt ((ruS ru).length : Int) := by
    rw [gI_fat t2 kF_78_27_9_false]
    exact hp.2.2.2.2.1
  obtain ⟨mx, Lx, Hx, b1, b2, b3, b4, b5⟩ := (wcLp hu.2.1 e25 m).1 0 L1 _ (Nat.zero_le _) ⟨t3, fun _ _ _ => rfl, fun i' b z => absurd z (Nat.not_lt_zero _), fun b z => absurd z (Nat.not_lt_zero _)⟩ hL1 h1
  have e27x : gI Hx 78 27 = Int32.ofInt ((ruS ru).length : Int) := (gI_cgE (b2 78 27 (by omega))).trans e27
  obtain ⟨c1, c2, c3, c4⟩ := (ccLp hp.2.2.2.2.2.1 e27x mx).1 0 Lx Hx (Nat.zero_le _) ⟨b1, fun _ _ _ => rfl, fun i' b z => absurd z (Nat.not_lt_zero _), fun b z => absurd z (Nat.not_lt_zero _)⟩ b4 b5
  have hcod : ∀ (i : Nat) (q : Int × Int), (ruS ru)[i]? = some q → gI H' (118 + i) 0 = Int32.ofInt q.1 ∧ gI H' (118 + i) 1 = Int32.ofInt q.2 ∧ qkO q := fun i q hq => by
    have hi := (List.getElem?_eq_some_iff.mp hq).1
    have hl := hp.2.2.2.2.2.1
    obtain ⟨d1, d2, d3⟩ := hp.2.2.2.2.2.2 i q hq
    rw [c4 i 0 hi (by decide), c4 i 1 hi (by decide), gI_cgE (b2 (339 + i) 0 (by omega)), gI_cgE (b2 (339 + i) 1 (by omega)), gI_cgE (hF (339 + i) 0 (by omega)), gI_cgE (hF (339 + i) 1 (by omega))]
    exact ⟨d1, d2, d3⟩
  -- a rule's codes among all
  have hat : ∀ (i : Nat) (q : Int × List (Int × Int)), ru[i]? = some q → frO ru i + q.2.length ≤ (ruS ru).length ∧ ∀ (j : Nat) (p : Int × Int), q.2[j]? = some p → (ruS ru)[frO ru i + j]? = some p := fun i q hq => by
    have hi := (List.getElem?_eq_some_iff.mp hq).1
    have e : ru = ru.take i ++ (q :: ru.drop (i + 1)) := by
      rw [← List.getElem?_eq_some_iff.mp hq |>.2, List.cons_getElem_drop_succ, List.take_append_drop]
    have e2 : ruS ru = ruS (ru.take i) ++ (q.2 ++ ruS (ru.drop (i + 1))) := by
      conv => lhs; rw [e]
      unfold ruS
      rw [List.flatMap_append, List.flatMap_cons]
    unfold frO
    rw [e2]
    refine ⟨by simp only [List.length_append]; omega, fun j p hp2 => ?_⟩
    have hj := (List.getElem?_eq_some_iff.mp hp2).1
    rw [List.getElem?_append_right (by omega), Nat.add_sub_cancel_left, List.getElem?_append_left hj]
    exact hp2
  refine ⟨⟨_, c1⟩, c2, fun a b z1 z2 z3 => (c3 a b (by omega)).trans ((b2 a b (by omega)).trans (hF a b z1)), ⟨⟨?_, hu.2.1⟩, fun i q hq => ?_⟩, fun q hq p hp2 => ?_⟩
  · rw [gI_cgE (c3 78 25 (by omega)), gI_cgE (b2 78 25 (by omega))]
    exact e25
  · have hi := (List.getElem?_eq_some_iff.mp hq).1
    have hl := hu.2.1
    obtain ⟨d1, d2, d3⟩ := hu.2.2 i q hq
    obtain ⟨a1, a2⟩ := hat i q hq
    have hl2 := hp.2.2.2.2.2.1
    refine ⟨?_, ?_, ?_, by omega, fun j p hp2 => ?_⟩
    · rw [gI_cgE (c3 (96 + i) 0 (by omega)), b3 i 0 hi (by decide), gI_cgE (hF (107 + i) 0 (by omega))]
      exact d1
    · rw [gI_cgE (c3 (96 + i) 1 (by omega)), b3 i 1 hi (by decide), gI_cgE (hF (107 + i) 1 (by omega))]
      exact d2
    · rw [gI_cgE (c3 (96 + i) 2 (by omega)), b3 i 2 hi (by decide), gI_cgE (hF (107 + i) 2 (by omega))]
      exact d3
    · obtain ⟨f1, f2, f3⟩ := hcod _ p (a2 j p hp2)
      exact ⟨f1, f2, f3.1, f3.2.1⟩
  · obtain ⟨i, hi, e⟩ := List.mem_iff_getElem.mp hq
    obtain ⟨j, hj, e2⟩ := List.mem_iff_getElem.mp hp2
    obtain ⟨-, a2⟩ := hat i q (List.getElem?_eq_some_iff.mpr ⟨hi, e⟩)
    exact (hcod _ p (a2 j p (List.getElem?_eq_some_iff.mpr ⟨hj, e2⟩))).2.2
end PCCP

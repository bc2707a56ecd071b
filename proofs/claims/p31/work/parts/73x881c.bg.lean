/-! PC: a text begins, both sides; the TONGUE's call -/
section PCBG
variable {m : Nat} {L : mjL} {H H' H1 H2 : mjH} {r : Option Value ⊕ Nat} {tx : Nat → Nat} {n F J Q : Nat}
/-- the tape of both sides -/
def tpI (H : mjH) (tx : Nat → Nat) (F : Nat) : Prop := (F ≤ 600 ∧ gI H 1 1 = Int32.ofInt (F : Int) ∧ gI H 78 1 = Int32.ofInt (F : Int)) ∧ ∀ i, i < F → tx i < 256 ∧ gI H 2 i = Int32.ofInt (sb (tx i)) ∧ gI H 79 i = Int32.ofInt (tx i : Int)
theorem px_begin (hn : n ≤ 600) (hT : HT H) (hc : tcC H tx n) (h : Pn none m 82 0 [(0, .ref 1), (1, .int (Int32.ofInt (n : Int)))] [] H r H') : ∃ s, ztRun ztBl tx n 0 s ∧ r = .inl none ∧ HT H' ∧ cAt H' tx n s ∧ (gI H' 1 7 = Int32.ofInt 0 ∧ gI H' 1 8 = Int32.ofInt 0) ∧ (∀ a b, a ≠ 1 → sxEl H' a b = sxEl H a b) := by
  obtain ⟨L1, hL1, r2, H2, q, k⟩ := a_b0 hT ⟨rfl, rfl, trivial⟩ h
  have e : (if (Int32.ofInt 0) < (if (Int32.ofInt 600) < Int32.ofInt (n : Int) then (Int32.ofInt 600) else Int32.ofInt (n : Int)) then (if (Int32.ofInt 600) < Int32.ofInt (n : Int) then (Int32.ofInt 600) else Int32.ofInt (n : Int)) else (Int32.ofInt 0)) = Int32.ofInt (n : Int) := by
    rw [if_neg (show ¬ (Int32.ofInt 600 < Int32.ofInt (n : Int)) by rw [zz_lt]; omega)]
    by_cases h0 : n = 0
    · rw [h0]
      decide
    · rw [if_pos (show Int32.ofInt 0 < Int32.ofInt (n : Int) by rw [zz_lt]; omega)]
  rw [e] at q
  have t1 := HT.pFI (x := Int32.ofInt 0) hT kF_1_1_6_false
  have t2 := HT.pFI (x := Int32.ofInt (n : Int)) t1 kF_1_2_6_false
  have t3 := HT.pFI (x := Int32.ofInt 0) t2 kF_1_3_6_false
  have t4 := HT.pFI (x := Int32.ofInt 0) t3 kF_1_5_6_false
  have t5 := HT.pFI (x := Int32.ofInt 0) t4 kF_1_7_6_false
  have t6 := HT.pFI (x := Int32.ofInt 0) t5 kF_1_8_6_false
  have t7 := HT.pFI (x := Int32.ofInt (-1)) t6 kF_1_9_6_false
  have hF : ∀ a b, a ≠ 1 → sxEl (pV (pV (pV (pV (pV (pV (pV H 1 1 (.int (Int32.ofInt 0))) 1 2 (.int (Int32.ofInt (n : Int)))) 1 3 (.int (Int32.ofInt 0))) 1 5 (.int (Int32.ofInt 0))) 1 7 (.int (Int32.ofInt 0))) 1 8 (.int (Int32.ofInt 0))) 1 9 (.int (Int32.ofInt (-1)))) a b = sxEl H a b := fun a b z => by rw [sxEl_ne (by omega), sxEl_ne (by omega), sxEl_ne (by omega), sxEl_ne (by omega), sxEl_ne (by omega), sxEl_ne (by omega), sxEl_ne (by omega)]
  have e2 : gI (pV (pV (pV (pV (pV (pV (pV H 1 1 (.int (Int32.ofInt 0))) 1 2 (.int (Int32.ofInt (n : Int)))) 1 3 (.int (Int32.ofInt 0))) 1 5 (.int (Int32.ofInt 0))) 1 7 (.int (Int32.ofInt 0))) 1 8 (.int (Int32.ofInt 0))) 1 9 (.int (Int32.ofInt (-1)))) 1 2 = Int32.ofInt (n : Int) := by
    rw [gI_ne (by omega), gI_ne (by omega), gI_ne (by omega), gI_ne (by omega), gI_ne (by omega)]
    exact gI_fat t1 kF_1_2_6_false
  have e3 : gI (pV (pV (pV (pV (pV (pV (pV H 1 1 (.int (Int32.ofInt 0))) 1 2 (.int (Int32.ofInt (n : Int)))) 1 3 (.int (Int32.ofInt 0))) 1 5 (.int (Int32.ofInt 0))) 1 7 (.int (Int32.ofInt 0))) 1 8 (.int (Int32.ofInt 0))) 1 9 (.int (Int32.ofInt (-1)))) 1 3 = Int32.ofInt 0 := by
    rw [gI_ne (by omega), gI_ne (by omega), gI_ne (by omega), gI_ne (by omega)]
    exact gI_fat t2 kF_1_3_6_false
  have e5 : gI (pV (pV (pV (pV (pV (pV (pV H 1 1 (.int (Int32.ofInt 0))) 1 2 (.int (Int32.ofInt (n : Int)))) 1 3 (.int (Int32.ofInt 0))) 1 5 (.int (Int32.ofInt 0))) 1 7 (.int (Int32.ofInt 0))) 1 8 (.int (Int32.ofInt 0))) 1 9 (.int (Int32.ofInt (-1)))) 1 5 = Int32.ofInt ((0 : Nat) : Int) := by
    rw [gI_ne (by omega), gI_ne (by omega), gI_ne (by omega)]
    exact gI_fat t3 kF_1_5_6_false
  have e7 : gI (pV (pV (pV (pV (pV (pV (pV H 1 1 (.int (Int32.ofInt 0))) 1 2 (.int (Int32.ofInt (n : Int)))) 1 3 (.int (Int32.ofInt 0))) 1 5 (.int (Int32.ofInt 0))) 1 7 (.int (Int32.ofInt 0))) 1 8 (.int (Int32.ofInt 0))) 1 9 (.int (Int32.ofInt (-1)))) 1 7 = Int32.ofInt 0 := by
    rw [gI_ne (by omega), gI_ne (by omega)]
    exact gI_fat t4 kF_1_7_6_false
  have e8 : gI (pV (pV (pV (pV (pV (pV (pV H 1 1 (.int (Int32.ofInt 0))) 1 2 (.int (Int32.ofInt (n : Int)))) 1 3 (.int (Int32.ofInt 0))) 1 5 (.int (Int32.ofInt 0))) 1 7 (.int (Int32.ofInt 0))) 1 8 (.int (Int32.ofInt 0))) 1 9 (.int (Int32.ofInt (-1)))) 1 8 = Int32.ofInt 0 := by
    rw [gI_ne (by omega)]
    exact gI_fat t5 kF_1_8_6_false
  obtain ⟨s, b1, b2, b3, b4, b5⟩ := px_step (k := 0) t7 (hc.cg (fun a b z => hF a b (by omega))) e2 e3 (by decide) e5 (Nat.zero_le _) q
  rw [b2] at k
  obtain ⟨f1, f2⟩ := a_b1 b3 hL1 (Kt_v k)
  rw [f2]
  exact ⟨s, b1, f1, b3, b5, ⟨(gI_cgE (b4 1 7 (by omega))).trans e7, (gI_cgE (b4 1 8 (by omega))).trans e8⟩, fun a b z => (b4 a b (by omega)).trans (hF a b z)⟩
theorem py_starts (hn : n ≤ 600) (hT : HT H) (hb : ∀ i, i < n → tx i < 256 ∧ gI H 79 i = Int32.ofInt (tx i : Int)) (h : Pn none m 214 0 [(0, .ref 78), (1, .int (Int32.ofInt (n : Int)))] [] H r H') : ∃ s, ztRun ztBl tx n 0 s ∧ r = .inl none ∧ HT H' ∧ (tcR H' tx n ∧ s ≤ n ∧ gI H' 78 4 = Int32.ofInt (s : Int) ∧ ¬ ztBl (ztB tx n s)) ∧ (gI H' 78 5 = Int32.ofInt 0 ∧ gI H' 78 8 = Int32.ofInt 0) ∧ (∀ a b, ¬ (a = 78 ∧ ((1 ≤ b ∧ b ≤ 2) ∨ (4 ≤ b ∧ b ≤ 8))) → sxEl H' a b = sxEl H a b) := by
  obtain ⟨L1, hL1, r2, H2, q, k⟩ := a_s0 hT ⟨rfl, rfl, trivial⟩ h
  have t1 := HT.pFI (x := Int32.ofInt 0) hT kF_78_1_9_false
  have t2 := HT.pFI (x := Int32.ofInt (n : Int)) t1 kF_78_2_9_false
  have t3 := HT.pFI (x := Int32.ofInt 0) t2 kF_78_4_9_false
  have t4 := HT.pFI (x := Int32.ofInt 0) t3 kF_78_5_9_false
  have t5 := HT.pFI (x := Int32.ofInt (-1)) t4 kF_78_6_9_false
  have t6 := HT.pFI (x := Int32.ofInt 0) t5 kF_78_7_9_false
  have t7 := HT.pFI (x := Int32.ofInt 0) t6 kF_78_8_9_false
  have hF : ∀ a b, ¬ (a = 78 ∧ ((1 ≤ b ∧ b ≤ 2) ∨ (4 ≤ b ∧ b ≤ 8))) → sxEl (pV (pV (pV (pV (pV (pV (pV H 78 1 (.int (Int32.ofInt 0))) 78 2 (.int (Int32.ofInt (n : Int)))) 78 4 (.int (Int32.ofInt 0))) 78 5 (.int (Int32.ofInt 0))) 78 6 (.int (Int32.ofInt (-1)))) 78 7 (.int (Int32.ofInt 0))) 78 8 (.int (Int32.ofInt 0))) a b = sxEl H a b := fun a b z => by rw [sxEl_ne (by omega), sxEl_ne (by omega), sxEl_ne (by omega), sxEl_ne (by omega), sxEl_ne (by omega), sxEl_ne (by omega), sxEl_ne (by omega)]
  have hc : tcR (pV (pV (pV (pV (pV (pV (pV H 78 1 (.int (Int32.ofInt 0))) 78 2 (.int (Int32.ofInt (n : Int)))) 78 4 (.int (Int32.ofInt 0))) 78 5 (.int (Int32.ofInt 0))) 78 6 (.int (Int32.ofInt (-1)))) 78 7 (.int (Int32.ofInt 0))) 78 8 (.int (Int32.ofInt 0))) tx n := by
    refine ⟨⟨hn, ?_⟩, fun i hi => ⟨(hb i hi).1, ?_⟩⟩
    · rw [gI_ne (by omega), gI_ne (by omega), gI_ne (by omega), gI_ne (by omega), gI_ne (by omega)]
      exact gI_fat t1 kF_78_2_9_false
    · rw [gI_cgE (hF 79 i (by omega))]
      exact (hb i hi).2
  have e4 : gI (pV (pV (pV (pV (pV (pV (pV H 78 1 (.int (Int32.ofInt 0))) 78 2 (.int (Int32.ofInt (n : Int)))) 78 4 (.int (Int32.ofInt 0))) 78 5 (.int (Int32.ofInt 0))) 78 6 (.int (Int32.ofInt (-1)))) 78 7 (.int (Int32.ofInt 0))) 78 8 (.int (Int32.ofInt 0))) 78 4 = Int32.ofInt ((0 : Nat) : Int) := by
    rw [gI_ne (by omega), gI_ne (by omega), gI_ne (by omega), gI_ne (by omega)]
    exact gI_fat t2 kF_78_4_9_false
  have e5 : gI (pV (pV (pV (pV (pV (pV (pV H 78 1 (.int (Int32.ofInt 0))) 78 2 (.int (Int32.ofInt (n : Int)))) 78 4 (.int (Int32.ofInt 0))) 78 5 (.int (Int32.ofInt 0))) 78 6 (.int (Int32.ofInt (-1)))) 78 7 (.int (Int32.ofInt 0))) 78 8 (.int (Int32.ofInt 0))) 78 5 = Int32.ofInt 0 := by
    rw [gI_ne (by omega), gI_ne (by omega), gI_ne (by omega)]
    exact gI_fat t3 kF_78_5_9_false
  have e8 : gI (pV (pV (pV (pV (pV (pV (pV H 78 1 (.int (Int32.ofInt 0))) 78 2 (.int (Int32.ofInt (n : Int)))) 78 4 (.int (Int32.ofInt 0))) 78 5 (.int (Int32.ofInt 0))) 78 6 (.int (Int32.ofInt (-1)))) 78 7 (.int (Int32.ofInt 0))) 78 8 (.int (Int32.ofInt 0))) 78 8 = Int32.ofInt 0 := gI_fat t6 kF_78_8_9_false
  obtain ⟨s, b1, b2, b3, b4, b5, b6⟩ := py_blanks t7 hc e4 (Nat.zero_le _) q
  rw [b3] at k
  obtain ⟨f1, f2⟩ := a_s1 b4 hL1 (Kt_v k)
  rw [f2]
  exact ⟨s, b1, f1, b4, ⟨b5.tk hc, b2, b6, b1.2.2⟩, ⟨(gI_cgE (b5 78 5 (by omega))).trans e5, (gI_cgE (b5 78 8 (by omega))).trans e8⟩, fun a b z => (b5 a b (by omega)).trans (hF a b z)⟩
/-- the class's refusal of an argument -/
theorem px_ra (hT : HT H) (h : Pn none m 172 0 [(0, .ref 0)] [] H r H') : (∃ E, r = .inr E) ∧ HT H' ∧ ∀ a b, ¬ (a = 30 ∧ b = 1) → sxEl H' a b = sxEl H a b := by
  obtain ⟨e1, e2⟩ := a_r0 hT ⟨rfl, trivial⟩ h
  refine ⟨⟨_, e1⟩, by rw [e2]; exact HT.pI hT (by decide +kernel : kA 30 100 3 false = true), fun a b z => by rw [e2, sxEl_ne z]⟩
theorem px_nb {y : Int32} {M : Int} (hM : 0 ≤ M ∧ M ≤ 600) (hF : F ≤ 600) (hT : HT H) (h1 : gI H 1 1 = Int32.ofInt (F : Int)) (h : Pn none m 179 0 [(0, .ref 0), (1, .int y), (2, .int (Int32.ofInt M))] [] H r H') : ((0 ≤ y.toInt ∧ y.toInt ≤ F ∧ y.toInt ≤ M) ∧ r = .inl none ∧ H' = H) ∨ (¬ (0 ≤ y.toInt ∧ y.toInt ≤ F ∧ y.toInt ≤ M) ∧ (∃ E, r = .inr E) ∧ HT H' ∧ ∀ a b, ¬ (a = 30 ∧ b = 1) → sxEl H' a b = sxEl H a b) := by
  have hy1 := Int32.le_toInt y
  have hy2 := Int32.toInt_lt y
  have ref : ∀ (L : mjL) (r2 : Option Value ⊕ Nat) (H2 : mjH), LG L [] → Pn none m 172 0 [(0, .ref 0)] [] H r2 H2 → Kt m 179 24 L [] r2 H2 r H' → (∃ E, r = .inr E) ∧ HT H' ∧ ∀ a b, ¬ (a = 30 ∧ b = 1) → sxEl H' a b = sxEl H a b := by
    intro L r2 H2 _ q k
    obtain ⟨⟨E, e⟩, t, f⟩ := px_ra hT q
    rcases k with ⟨u, e2, -⟩ | ⟨E2, e2, k1, k2⟩
    · rw [e] at e2
      cases e2
    · rw [k2]
      exact ⟨⟨E2, k1⟩, t, f⟩
  rw [zz_of y] at h
  have hb := a_n0 hT ⟨rfl, rfl, rfl, trivial⟩ h
  rw [h1, zz_lt, zz_lt, zz_le] at hb
  rcases hb with ⟨g, L1, hL1, r1, H1, q1, k1⟩ | ⟨g, ⟨g2, L1, hL1, r1, H1, q1, k1⟩ | ⟨g2, ⟨g3, e1, e2⟩ | ⟨g3, L1, hL1, r1, H1, q1, k1⟩⟩⟩
  · exact Or.inr ⟨by omega, ref L1 r1 H1 hL1 q1 k1⟩
  · exact Or.inr ⟨by omega, ref L1 r1 H1 hL1 q1 k1⟩
  · exact Or.inl ⟨by omega, e1, e2⟩
  · exact Or.inr ⟨by omega, ref L1 r1 H1 hL1 q1 k1⟩
theorem i1_ne : ¬ Int32.ofInt 1 = Int32.ofInt 0 := by decide
theorem i2_ne : ¬ Int32.ofInt 2 = Int32.ofInt 0 := by decide
/-- the reference's refusals -/
theorem py_bd0 {i2 i3 : Int32} (hT : HT H) (th : gI H 78 0 = Int32.ofInt 0) (h : Pn none m 197 0 [(0, .ref 78), (1, .int (Int32.ofInt 0)), (2, .int i2), (3, .int i3)] [] H r H') : r = .inl (some (.int (Int32.ofInt 0))) ∧ H' = H := by
  have hb := a_x0 hT ⟨rfl, rfl, rfl, rfl, trivial⟩ h
  rcases hb with ⟨-, ⟨-, e1, e2⟩ | ⟨z, -⟩⟩ | ⟨z, -⟩
  · exact ⟨e1, e2⟩
  · exact absurd th z
  · exact absurd rfl z
theorem py_bd1 {i2 i3 : Int32} (hw : ¬ i2 = Int32.ofInt 0) (hT : HT H) (th : gI H 78 0 = Int32.ofInt 0) (h : Pn none m 197 0 [(0, .ref 78), (1, .int (Int32.ofInt 1)), (2, .int i2), (3, .int i3)] [] H r H') : r = .inl (some (.int (Int32.ofInt 1))) ∧ HT H' ∧ gI H' 78 0 = i2 ∧ ∀ a b, ¬ (a = 78 ∧ b = 0) → a ≠ 80 → sxEl H' a b = sxEl H a b := by
  have hb := a_x0 hT ⟨rfl, rfl, rfl, rfl, trivial⟩ h
  rcases hb with ⟨z, -⟩ | ⟨-, ⟨z, -⟩ | ⟨-, -, ⟨z, -⟩ | ⟨-, e1, e2⟩⟩⟩
  · exact absurd z (by decide)
  · exact absurd th z
  · exact absurd z hw
  · have t0 := HT.pFI (x := i2) hT kF_78_0_9_false
    refine ⟨e1, ?_, ?_, fun a b z1 z2 => ?_⟩
    · rw [e2]
      exact HT.pI t0 (by decide +kernel : kA 80 100 3 false = true)
    · rw [e2, gI_ne (by omega)]
      exact gI_fat hT kF_78_0_9_false
    · rw [e2, sxEl_ne (fun z => z2 z.1), sxEl_ne z1]
end PCBG

/-! PC: what stands at the law's head -/
section PCINV
variable {H H' H2 : mjH} {J Q a b : Nat} {ru : tgRu}
theorem gR_cgE {i j : Nat} {H1 : mjH} (h : sxEl H1 i j = sxEl H i j) : gR H1 i j = gR H i j := by
  unfold gR
  rw [h]
def inF (F : frW) (a b : Nat) : Prop := ∃ f, f ∈ F ∧ (f.1 ≤ a ∧ a ≤ f.2.1) ∧ f.2.2.1 ≤ b ∧ b ≤ f.2.2.2
def djA (F W : frW) : Bool := W.all (fun q => F.all (fun f => (Nat.blt q.2.1 f.1 || Nat.blt f.2.1 q.1) || (Nat.blt q.2.2.2 f.2.2.1 || Nat.blt f.2.2.2 q.2.2.1)))
theorem djA_ok {F W : frW} (h : djA F W = true) (hf : inF F a b) : frIn W a b = false := by
  cases e : frIn W a b with
  | false => rfl
  | true =>
    exfalso
    obtain ⟨q, q1, q2, q3⟩ := frIn_c e
    obtain ⟨f, f1, f2, f3⟩ := hf
    have h1 := List.all_eq_true.mp (List.all_eq_true.mp h q q1) f f1
    simp only [Bool.or_eq_true] at h1
    rcases h1 with (h1 | h1) | (h1 | h1)
    · have := bltOk h1
      omega
    · have := bltOk h1
      omega
    · have := bltOk h1
      omega
    · have := bltOk h1
      omega
/-- the class's codes -/
def codG (H : mjH) (Q : Nat) (cs : List Int) : Prop := gI H Q 2 = Int32.ofInt (cs.length : Int) ∧ cs.length ≤ 201 ∧ ∀ (i : Nat) (c : Int), cs[i]? = some c → gI H (Q + 1) i = Int32.ofInt c
def ruB (ru : tgRu) : Prop := ∀ q, q ∈ ru → ∀ p, p ∈ q.2 → qkO p
def pI (H : mjH) (J Q : Nat) (ru : tgRu) : Prop := HT H ∧ ((J = 3 ∨ J = 11) ∧ gR H 0 2 = J ∧ gR H 0 3 = 14 - J) ∧ ((Q = 19 ∨ Q = 23) ∧ gR H 0 4 = Q ∧ gR H 0 5 = 42 - Q) ∧ (∀ q, q < 17 → gI H (J + 2) q = Int32.ofInt (pp (gL H (J + 1) q) : Int)) ∧ (tgOk ru ∧ ruB ru) ∧ gI H Q 0 = Int32.ofInt (ru.length : Int) ∧ codG H Q (tgCode ru) ∧ tmRu H ru (frO ru)
def fpI : frW := [(0, 0, 2, 5), (4, 5, 0, 100000), (12, 13, 0, 100000), (19, 19, 0, 2), (20, 20, 0, 100000), (23, 23, 0, 2), (24, 24, 0, 100000), (78, 78, 25, 25), (96, 105, 0, 100000), (118, 337, 0, 100000)]
theorem inF_m {F : frW} {f : Nat × Nat × Nat × Nat} (hf : f ∈ F) (h1 : f.1 ≤ a) (h2 : a ≤ f.2.1) (h3 : f.2.2.1 ≤ b) (h4 : b ≤ f.2.2.2) : inF F a b := ⟨f, hf, ⟨h1, h2⟩, h3, h4⟩
theorem fp_0 (h : 2 ≤ b ∧ b ≤ 5) : inF fpI 0 b := inF_m (f := (0, 0, 2, 5)) (by simp [fpI]) (Nat.le_refl _) (Nat.le_refl _) h.1 h.2
theorem fp_J (hJ : J = 3 ∨ J = 11) (h : a = J + 1 ∨ a = J + 2) (hb : b ≤ 100000) : inF fpI a b := by
  rcases hJ with rfl | rfl
  · exact inF_m (f := (4, 5, 0, 100000)) (by simp [fpI]) (by show 4 ≤ a; omega) (by show a ≤ 5; omega) (Nat.zero_le _) hb
  · exact inF_m (f := (12, 13, 0, 100000)) (by simp [fpI]) (by show 12 ≤ a; omega) (by show a ≤ 13; omega) (Nat.zero_le _) hb
theorem fp_Q (hQ : Q = 19 ∨ Q = 23) (hb : b ≤ 2) : inF fpI Q b := by
  rcases hQ with rfl | rfl
  · exact inF_m (f := (19, 19, 0, 2)) (by simp [fpI]) (Nat.le_refl _) (Nat.le_refl _) (Nat.zero_le _) hb
  · exact inF_m (f := (23, 23, 0, 2)) (by simp [fpI]) (Nat.le_refl _) (Nat.le_refl _) (Nat.zero_le _) hb
theorem fp_Q1 (hQ : Q = 19 ∨ Q = 23) (hb : b ≤ 100000) : inF fpI (Q + 1) b := by
  rcases hQ with rfl | rfl
  · exact inF_m (f := (20, 20, 0, 100000)) (by simp [fpI]) (Nat.le_refl _) (Nat.le_refl _) (Nat.zero_le _) hb
  · exact inF_m (f := (24, 24, 0, 100000)) (by simp [fpI]) (Nat.le_refl _) (Nat.le_refl _) (Nat.zero_le _) hb
theorem fp_w : inF fpI 78 25 := inF_m (f := (78, 78, 25, 25)) (by simp [fpI]) (Nat.le_refl _) (Nat.le_refl _) (Nat.le_refl _) (Nat.le_refl _)
theorem fp_r (h : 96 ≤ a ∧ a ≤ 105) (hb : b ≤ 100000) : inF fpI a b := inF_m (f := (96, 105, 0, 100000)) (by simp [fpI]) h.1 h.2 (Nat.zero_le _) hb
theorem fp_c (h : 118 ≤ a ∧ a ≤ 337) (hb : b ≤ 100000) : inF fpI a b := inF_m (f := (118, 337, 0, 100000)) (by simp [fpI]) h.1 h.2 (Nat.zero_le _) hb
theorem pI_cg (h : pI H J Q ru) (hT : HT H') (hs : ∀ a b, inF fpI a b → ¬ (a = 42 - Q ∨ a = 43 - Q) → sxEl H' a b = sxEl H a b) : pI H' J Q ru := by
  obtain ⟨-, ⟨j1, j2, j3⟩, ⟨q1, q2, q3⟩, s1, o1, n1, ⟨c1, c2, c3⟩, ⟨h1, h2⟩, h3⟩ := h
  refine ⟨hT, ⟨j1, (gR_cgE (hs 0 2 (fp_0 (by omega)) (by omega))).trans j2, (gR_cgE (hs 0 3 (fp_0 (by omega)) (by omega))).trans j3⟩, ⟨q1, (gR_cgE (hs 0 4 (fp_0 (by omega)) (by omega))).trans q2, (gR_cgE (hs 0 5 (fp_0 (by omega)) (by omega))).trans q3⟩, fun q hq => ?_, o1, (gI_cgE (hs Q 0 (fp_Q q1 (by omega)) (by omega))).trans n1, ⟨(gI_cgE (hs Q 2 (fp_Q q1 (by omega)) (by omega))).trans c1, c2, fun i c hi => ?_⟩, ⟨(gI_cgE (hs 78 25 fp_w (by omega))).trans h1, h2⟩, fun i q hq => ?_⟩
  · rw [gL_cgE (hs (J + 1) q (fp_J j1 (Or.inl rfl) (by omega)) (by omega)), gI_cgE (hs (J + 2) q (fp_J j1 (Or.inr rfl) (by omega)) (by omega))]
    exact s1 q hq
  · have g1 := (List.getElem?_eq_some_iff.mp hi).1
    exact (gI_cgE (hs (Q + 1) i (fp_Q1 q1 (by omega)) (by omega))).trans (c3 i c hi)
  · have hi := (List.getElem?_eq_some_iff.mp hq).1
    obtain ⟨a1, a2, a3, a4, a5⟩ := h3 i q hq
    refine ⟨(gI_cgE (hs (96 + i) 0 (fp_r (by omega) (by omega)) (by omega))).trans a1, (gI_cgE (hs (96 + i) 1 (fp_r (by omega) (by omega)) (by omega))).trans a2, (gI_cgE (hs (96 + i) 2 (fp_r (by omega) (by omega)) (by omega))).trans a3, a4, fun j p hp => ?_⟩
    have hj := (List.getElem?_eq_some_iff.mp hp).1
    obtain ⟨b1, b2, b3⟩ := a5 j p hp
    exact ⟨(gI_cgE (hs _ 0 (fp_c (by omega) (by omega)) (by omega))).trans b1, (gI_cgE (hs _ 1 (fp_c (by omega) (by omega)) (by omega))).trans b2, b3⟩
theorem fp_lt (h : inF fpI a b) : (a = 0 ∧ 2 ≤ b ∧ b ≤ 5) ∨ (4 ≤ a ∧ a ≤ 5) ∨ (12 ≤ a ∧ a ≤ 13) ∨ (a = 19 ∧ b ≤ 2) ∨ a = 20 ∨ (a = 23 ∧ b ≤ 2) ∨ a = 24 ∨ (a = 78 ∧ b = 25) ∨ (96 ≤ a ∧ a ≤ 105) ∨ (118 ≤ a ∧ a ≤ 337) := by
  obtain ⟨f, f1, ⟨f2, f3⟩, f4, f5⟩ := h
  simp only [fpI, List.mem_cons, List.not_mem_nil, or_false] at f1
  rcases f1 with rfl | rfl | rfl | rfl | rfl | rfl | rfl | rfl | rfl | rfl <;> (dsimp only at f2 f3 f4 f5; omega)
theorem fp_b (h : inF fpI a b) : b ≤ 100000 := by
  obtain ⟨f, f1, ⟨f2, f3⟩, f4, f5⟩ := h
  simp only [fpI, List.mem_cons, List.not_mem_nil, or_false] at f1
  rcases f1 with rfl | rfl | rfl | rfl | rfl | rfl | rfl | rfl | rfl | rfl <;> (dsimp only at f2 f3 f4 f5; omega)
theorem tm_cg (h : tmRu H ru (frO ru)) (h1 : gI H' 78 25 = gI H 78 25) (hs : ∀ a b, (96 ≤ a ∧ a ≤ 105) ∨ (118 ≤ a ∧ a ≤ 337) → b ≤ 100000 → sxEl H' a b = sxEl H a b) : tmRu H' ru (frO ru) := by
  obtain ⟨⟨g1, g2⟩, g3⟩ := h
  refine ⟨⟨h1.trans g1, g2⟩, fun i q hq => ?_⟩
  have hi := (List.getElem?_eq_some_iff.mp hq).1
  obtain ⟨a1, a2, a3, a4, a5⟩ := g3 i q hq
  refine ⟨(gI_cgE (hs (96 + i) 0 (by omega) (by omega))).trans a1, (gI_cgE (hs (96 + i) 1 (by omega) (by omega))).trans a2, (gI_cgE (hs (96 + i) 2 (by omega) (by omega))).trans a3, a4, fun j p hp => ?_⟩
  have hj := (List.getElem?_eq_some_iff.mp hp).1
  obtain ⟨b1, b2, b3⟩ := a5 j p hp
  exact ⟨(gI_cgE (hs _ 0 (by omega) (by omega))).trans b1, (gI_cgE (hs _ 1 (by omega) (by omega))).trans b2, b3⟩
end PCINV

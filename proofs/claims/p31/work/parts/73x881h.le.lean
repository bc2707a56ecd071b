/-! PC: the turn that is compared, by program -/
section LWE
variable {m : Nat} {xs : List Int32} {i : Int32} {L : mjL} {H H' : mjH} {r : Option Value ⊕ Nat} {y : Nat → Int32}
def leP (y : Nat → Int32) (H H2 : mjH) : Prop := ∃ (m1 : Nat) (r1 : Option Value ⊕ Nat) (H1 : mjH) (m2 : Nat) (r2 : Option Value ⊕ Nat), Pn none m1 352 0 [(0, .ref 0), (1, .int (y 1)), (2, .ref 578)] [] H r1 H1 ∧ Pn none m2 305 0 [(0, .ref 78), (1, .int (y 1))] [] H1 r2 H2
theorem leP_det {H2 H3 : mjH} (q : leP y H H2) (q' : leP y H H3) : H3 = H2 := by
  obtain ⟨m1, r1, H1, m2, r2, q1, q2⟩ := q
  obtain ⟨m1', r1', H1', m2', r2', q1', q2'⟩ := q'
  obtain ⟨-, e⟩ := Pn_det q1 q1'
  rw [e] at q2'
  exact (Pn_det q2 q2').2
/-- both sides answer alike -/
def leC (y : Nat → Int32) (H : mjH) : Prop := ∀ (m1 : Nat) (r1 : Option Value ⊕ Nat) (H1 : mjH), Pn none m1 352 0 [(0, .ref 0), (1, .int (y 1)), (2, .ref 578)] [] H r1 H1 → ∃ w : Int32, r1 = .inl (some (.int w)) ∧ HT H1 ∧ ∀ (m2 : Nat) (r2 : Option Value ⊕ Nat) (H2 : mjH), Pn none m2 305 0 [(0, .ref 78), (1, .int (y 1))] [] H1 r2 H2 → ∃ v : Int32, r2 = .inl (some (.int v)) ∧ HT H2 ∧ gI H2 78 0 = w ∧ (w = Int32.ofInt 0 → gL H2 578 0 = v.toInt64)
theorem le_turn (hT : HT H) (hL : lwL L i) (hy : lwY xs i y) (c1 : leC y H) (h : Pn (some xs) m 373 1195 L [] H r H') : ∃ (L2 : mjL) (H2 : mjH), leP y H H2 ∧ HT H2 ∧ lwL L2 (i + Int32.ofInt 6) ∧ Pn (some xs) m 373 23 L2 [] H2 r H' := by
  obtain ⟨y0, ⟨-, ey0⟩, L1, hL1, r1, H1, q1, k1⟩ := le_0 hT hL h
  rw [hy.1 _ ey0] at q1
  obtain ⟨w, ew, t1, c2⟩ := c1 m r1 H1 q1
  rw [ew] at k1
  obtain ⟨y0', ⟨-, ey0'⟩, L2, hL2, r2, H2, q2, k2⟩ := le_1 t1 hL1 (pn_ret k1)
  rw [hy.1 _ ey0'] at q2
  obtain ⟨v, ev, t2, g0, gv⟩ := c2 m r2 H2 q2
  rw [ev] at k2
  obtain ⟨L3, hL3, r3, H3, q3, k3⟩ := le_2 t2 hL2 (pn_ret k2)
  obtain ⟨e3, e4⟩ := v_t0 t2 ⟨rfl, trivial⟩ q3
  rw [e3, e4, g0] at k3
  rcases le_3 t2 hL3 (pn_ret k3) with ⟨-, ⟨z, L4, hL4, h4⟩ | ⟨z, ⟨-, L4, hL4, h4⟩ | ⟨z2, -⟩⟩⟩ | ⟨z, -⟩
  · exact ⟨L4, H2, ⟨_, r1, H1, _, r2, q1, q2⟩, t2, hL4, h4⟩
  · exact ⟨L4, H2, ⟨_, r1, H1, _, r2, q1, q2⟩, t2, hL4, h4⟩
  · rw [gv (Decidable.not_not.mp z)] at z2
    exact absurd (lz_cmp.mpr rfl) z2
  · exact absurd rfl z
end LWE

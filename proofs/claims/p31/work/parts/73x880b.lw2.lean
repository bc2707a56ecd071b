/-! PC: the law's turns, by program: what a call of the law comes to -/
section LWQ
variable {m : Nat} {xs : List Int32} {i : Int32} {L : mjL} {H H' H1 H2 H3 : mjH} {r : Option Value ⊕ Nat} {y : Nat → Int32}
/-- the words of a turn -/
def lwY (xs : List Int32) (i : Int32) (y : Nat → Int32) : Prop := (∀ z, xs[(i + Int32.ofInt 1).toNatClampNeg]? = some z → z = y 1) ∧ (∀ z, xs[(i + Int32.ofInt 2).toNatClampNeg]? = some z → z = y 2) ∧ (∀ z, xs[(i + Int32.ofInt 3).toNatClampNeg]? = some z → z = y 3) ∧ (∀ z, xs[(i + Int32.ofInt 4).toNatClampNeg]? = some z → z = y 4) ∧ (∀ z, xs[(i + Int32.ofInt 5).toNatClampNeg]? = some z → z = y 5)
theorem lRi {M : frMt} {cv : Option Value} (ed : frEd M H r H') (hr : M.2.2.2.1 = some (.inr false)) (e : r = .inl cv) : ∃ x : Int32, cv = some (.int x) := by
  have h := ed.2.2 cv e
  rw [hr] at h
  cases cv with
  | none => exact h.elim
  | some w =>
    obtain ⟨x, hx⟩ := h
    exact ⟨x, by rw [hx]⟩
theorem lRl {M : frMt} {cv : Option Value} (ed : frEd M H r H') (hr : M.2.2.2.1 = some (.inr true)) (e : r = .inl cv) : ∃ x : Int64, cv = some (.long x) := by
  have h := ed.2.2 cv e
  rw [hr] at h
  cases cv with
  | none => exact h.elim
  | some w =>
    obtain ⟨x, hx⟩ := h
    exact ⟨x, by rw [hx]⟩
theorem lRv {M : frMt} {cv : Option Value} (ed : frEd M H r H') (hr : M.2.2.2.1 = none) (e : r = .inl cv) : cv = none := by
  have h := ed.2.2 cv e
  rw [hr] at h
  cases cv with
  | none => rfl
  | some w => exact h.elim
/-- the locals at the law's head -/
def lwL (L : mjL) (i : Int32) : Prop := LG L [(0, .ref 3000000), (1, .ref 0), (2, .ref 78), (3, .ref 578), (4, .int i)]
/-- feed -/
def lq_0 (y : Nat → Int32) (H H2 : mjH) : Prop := ∃ (m1 m2 : Nat) (r1 r2 : Option Value ⊕ Nat) (H1 : mjH), Pn none m1 113 0 [(0, .ref 0), (1, .int (y 1)), (2, .int (y 2)), (3, .int (y 3)), (4, .int (y 4)), (5, .int (y 5))] [] H r1 H1 ∧ Pn none m2 199 0 [(0, .ref 78), (1, .int (y 1)), (2, .int (y 2)), (3, .int (y 3)), (4, .int (y 4)), (5, .int (y 5))] [] H1 r2 H2 ∧ (∃ v1, r1 = .inl v1) ∧ ∃ v2, r2 = .inl v2
theorem lg_0a (hT : HT H) (q : Pn none m 113 0 [(0, .ref 0), (1, .int (y 1)), (2, .int (y 2)), (3, .int (y 3)), (4, .int (y 4)), (5, .int (y 5))] [] H r H') : frEd lM58 H r H' := lFr (M := lM58) (s := ([(0, .inl [0]), (1, .inr false), (2, .inr false), (3, .inr false), (4, .inr false), (5, .inr false)], [])) lIn58 rfl (by decide +kernel) rfl (frLR_c rfl ⟨0, List.mem_singleton.mpr rfl, rfl⟩ (frLR_c rfl ⟨_, rfl⟩ (frLR_c rfl ⟨_, rfl⟩ (frLR_c rfl ⟨_, rfl⟩ (frLR_c rfl ⟨_, rfl⟩ (frLR_c rfl ⟨_, rfl⟩ frLR_n)))))) hT q
theorem lg_0b (hT : HT H) (q : Pn none m 199 0 [(0, .ref 78), (1, .int (y 1)), (2, .int (y 2)), (3, .int (y 3)), (4, .int (y 4)), (5, .int (y 5))] [] H r H') : frEd lM168 H r H' := lFr (M := lM168) (s := ([(0, .inl [78]), (1, .inr false), (2, .inr false), (3, .inr false), (4, .inr false), (5, .inr false)], [])) lIn168 rfl (by decide +kernel) rfl (frLR_c rfl ⟨78, List.mem_singleton.mpr rfl, rfl⟩ (frLR_c rfl ⟨_, rfl⟩ (frLR_c rfl ⟨_, rfl⟩ (frLR_c rfl ⟨_, rfl⟩ (frLR_c rfl ⟨_, rfl⟩ (frLR_c rfl ⟨_, rfl⟩ frLR_n)))))) hT q
theorem lf_0 (hT : HT H) (q : lq_0 y H H2) : HT H2 ∧ ∀ a b, frIn (lM58).2.2.1 a b = false → frIn (lM168).2.2.1 a b = false → sxEl H2 a b = sxEl H a b := by
  obtain ⟨m1, m2, r1, r2, H1, q1, q2, -⟩ := q
  have e1 := lg_0a hT q1
  have e2 := lg_0b e1.1 q2
  exact ⟨e2.1, fun a b z1 z2 => (e2.2.1 a b z2).trans (e1.2.1 a b z1)⟩
theorem ld_0 (q : lq_0 y H H2) (q' : lq_0 y H H3) : H3 = H2 := by
  obtain ⟨m1, m2, r1, r2, H1, q1, q2, -⟩ := q
  obtain ⟨m1', m2', r1', r2', H1', q1', q2', -⟩ := q'
  obtain ⟨-, e⟩ := Pn_det q1 q1'
  rw [e] at q2'
  exact (Pn_det q2 q2').2
theorem ln_0 (hT : HT H) (hL : lwL L i) (hy : lwY xs i y) (h : Pn (some xs) m 373 288 L [] H r H') : (∃ E, r = .inr E) ∨ ∃ (L2 : mjL) (H2 : mjH), lq_0 y H H2 ∧ HT H2 ∧ lwL L2 (i + Int32.ofInt 6) ∧ Pn (some xs) m 373 23 L2 [] H2 r H' := by
  obtain ⟨y0, ⟨-, ey0⟩, y1, ⟨-, ey1⟩, y2, ⟨-, ey2⟩, y3, ⟨-, ey3⟩, y4, ⟨-, ey4⟩, L1, hL1, r1, H1, q1, k1⟩ := la_0 hT hL h
  rw [hy.1 _ ey0] at q1
  rw [hy.2.1 _ ey1] at q1
  rw [hy.2.2.1 _ ey2] at q1
  rw [hy.2.2.2.1 _ ey3] at q1
  rw [hy.2.2.2.2 _ ey4] at q1
  have ed1 := lg_0a hT q1
  rcases k1 with ⟨v1, e1, h1⟩ | ⟨E, -, z, -⟩
  rotate_left
  · exact Or.inl ⟨E, z⟩
  obtain ⟨s0, hs0⟩ := lRi ed1 rfl e1
  rw [hs0] at h1
  obtain ⟨y0', ⟨-, ey0'⟩, y1', ⟨-, ey1'⟩, y2', ⟨-, ey2'⟩, y3', ⟨-, ey3'⟩, y4', ⟨-, ey4'⟩, L2, hL2, r2, H2, q2, k2⟩ := lb_0 ed1.1 hL1 h1
  rw [hy.1 _ ey0'] at q2
  rw [hy.2.1 _ ey1'] at q2
  rw [hy.2.2.1 _ ey2'] at q2
  rw [hy.2.2.2.1 _ ey3'] at q2
  rw [hy.2.2.2.2 _ ey4'] at q2
  have ed2 := lg_0b ed1.1 q2
  rcases k2 with ⟨v2, e2, h2⟩ | ⟨E, -, z, -⟩
  rotate_left
  · exact Or.inl ⟨E, z⟩
  obtain ⟨s1, hs1⟩ := lRi ed2 rfl e2
  rw [hs1] at h2
  obtain ⟨L3, hL3, h3⟩ := lc_0 ed2.1 hL2 h2
  exact Or.inr ⟨L3, H2, ⟨_, _, _, _, H1, q1, q2, ⟨_, e1⟩, _, e2⟩, ed2.1, hL3, h3⟩
/-- jar -/
def lq_1 (y : Nat → Int32) (H H2 : mjH) : Prop := ∃ (m1 m2 : Nat) (r1 r2 : Option Value ⊕ Nat) (H1 : mjH), Pn none m1 330 0 [(0, .ref 0), (1, .int (y 1)), (2, .ref 578)] [] H r1 H1 ∧ Pn none m2 223 0 [(0, .ref 78), (1, .int (y 1))] [] H1 r2 H2 ∧ (∃ v1, r1 = .inl v1) ∧ ∃ v2, r2 = .inl v2
theorem lg_1a (hT : HT H) (q : Pn none m 330 0 [(0, .ref 0), (1, .int (y 1)), (2, .ref 578)] [] H r H') : frEd lM59 H r H' := lFr (M := lM59) (s := ([(0, .inl [0]), (1, .inr false), (2, .inl [578])], [])) lIn59 rfl (by decide +kernel) rfl (frLR_c rfl ⟨0, List.mem_singleton.mpr rfl, rfl⟩ (frLR_c rfl ⟨_, rfl⟩ (frLR_c rfl ⟨578, List.mem_singleton.mpr rfl, rfl⟩ frLR_n))) hT q
theorem lg_1b (hT : HT H) (q : Pn none m 223 0 [(0, .ref 78), (1, .int (y 1))] [] H r H') : frEd lM169 H r H' := lFr (M := lM169) (s := ([(0, .inl [78]), (1, .inr false)], [])) lIn169 rfl (by decide +kernel) rfl (frLR_c rfl ⟨78, List.mem_singleton.mpr rfl, rfl⟩ (frLR_c rfl ⟨_, rfl⟩ frLR_n)) hT q
theorem lf_1 (hT : HT H) (q : lq_1 y H H2) : HT H2 ∧ ∀ a b, frIn (lM59).2.2.1 a b = false → frIn (lM169).2.2.1 a b = false → sxEl H2 a b = sxEl H a b := by
  obtain ⟨m1, m2, r1, r2, H1, q1, q2, -⟩ := q
  have e1 := lg_1a hT q1
  have e2 := lg_1b e1.1 q2
  exact ⟨e2.1, fun a b z1 z2 => (e2.2.1 a b z2).trans (e1.2.1 a b z1)⟩
theorem ld_1 (q : lq_1 y H H2) (q' : lq_1 y H H3) : H3 = H2 := by
  obtain ⟨m1, m2, r1, r2, H1, q1, q2, -⟩ := q
  obtain ⟨m1', m2', r1', r2', H1', q1', q2', -⟩ := q'
  obtain ⟨-, e⟩ := Pn_det q1 q1'
  rw [e] at q2'
  exact (Pn_det q2 q2').2
theorem ln_1 (hT : HT H) (hL : lwL L i) (hy : lwY xs i y) (h : Pn (some xs) m 373 361 L [] H r H') : (∃ E, r = .inr E) ∨ ∃ (L2 : mjL) (H2 : mjH), lq_1 y H H2 ∧ HT H2 ∧ lwL L2 (i + Int32.ofInt 6) ∧ Pn (some xs) m 373 23 L2 [] H2 r H' := by
  obtain ⟨y0, ⟨-, ey0⟩, L1, hL1, r1, H1, q1, k1⟩ := la_1 hT hL h
  rw [hy.1 _ ey0] at q1
  have ed1 := lg_1a hT q1
  rcases k1 with ⟨v1, e1, h1⟩ | ⟨E, -, z, -⟩
  rotate_left
  · exact Or.inl ⟨E, z⟩
  obtain ⟨s0, hs0⟩ := lRi ed1 rfl e1
  rw [hs0] at h1
  obtain ⟨y0', ⟨-, ey0'⟩, L2, hL2, r2, H2, q2, k2⟩ := lb_1 ed1.1 hL1 h1
  rw [hy.1 _ ey0'] at q2
  have ed2 := lg_1b ed1.1 q2
  rcases k2 with ⟨v2, e2, h2⟩ | ⟨E, -, z, -⟩
  rotate_left
  · exact Or.inl ⟨E, z⟩
  obtain ⟨s1, hs1⟩ := lRi ed2 rfl e2
  rw [hs1] at h2
  obtain ⟨L3, hL3, h3⟩ := lc_1 ed2.1 hL2 h2
  exact Or.inr ⟨L3, H2, ⟨_, _, _, _, H1, q1, q2, ⟨_, e1⟩, _, e2⟩, ed2.1, hL3, h3⟩
/-- question -/
def lq_2 (y : Nat → Int32) (H H2 : mjH) : Prop := ∃ (m1 m2 : Nat) (r1 r2 : Option Value ⊕ Nat) (H1 : mjH), Pn none m1 331 0 [(0, .ref 0), (1, .int (y 1)), (2, .ref 578)] [] H r1 H1 ∧ Pn none m2 226 0 [(0, .ref 78), (1, .int (y 1))] [] H1 r2 H2 ∧ (∃ v1, r1 = .inl v1) ∧ ∃ v2, r2 = .inl v2
theorem lg_2a (hT : HT H) (q : Pn none m 331 0 [(0, .ref 0), (1, .int (y 1)), (2, .ref 578)] [] H r H') : frEd lM60 H r H' := lFr (M := lM60) (s := ([(0, .inl [0]), (1, .inr false), (2, .inl [578])], [])) lIn60 rfl (by decide +kernel) rfl (frLR_c rfl ⟨0, List.mem_singleton.mpr rfl, rfl⟩ (frLR_c rfl ⟨_, rfl⟩ (frLR_c rfl ⟨578, List.mem_singleton.mpr rfl, rfl⟩ frLR_n))) hT q
theorem lg_2b (hT : HT H) (q : Pn none m 226 0 [(0, .ref 78), (1, .int (y 1))] [] H r H') : frEd lM170 H r H' := lFr (M := lM170) (s := ([(0, .inl [78]), (1, .inr false)], [])) lIn170 rfl (by decide +kernel) rfl (frLR_c rfl ⟨78, List.mem_singleton.mpr rfl, rfl⟩ (frLR_c rfl ⟨_, rfl⟩ frLR_n)) hT q
theorem lf_2 (hT : HT H) (q : lq_2 y H H2) : HT H2 ∧ ∀ a b, frIn (lM60).2.2.1 a b = false → frIn (lM170).2.2.1 a b = false → sxEl H2 a b = sxEl H a b := by
  obtain ⟨m1, m2, r1, r2, H1, q1, q2, -⟩ := q
  have e1 := lg_2a hT q1
  have e2 := lg_2b e1.1 q2
  exact ⟨e2.1, fun a b z1 z2 => (e2.2.1 a b z2).trans (e1.2.1 a b z1)⟩
theorem ld_2 (q : lq_2 y H H2) (q' : lq_2 y H H3) : H3 = H2 := by
  obtain ⟨m1, m2, r1, r2, H1, q1, q2, -⟩ := q
  obtain ⟨m1', m2', r1', r2', H1', q1', q2', -⟩ := q'
  obtain ⟨-, e⟩ := Pn_det q1 q1'
  rw [e] at q2'
  exact (Pn_det q2 q2').2
theorem ln_2 (hT : HT H) (hL : lwL L i) (hy : lwY xs i y) (h : Pn (some xs) m 373 389 L [] H r H') : (∃ E, r = .inr E) ∨ ∃ (L2 : mjL) (H2 : mjH), lq_2 y H H2 ∧ HT H2 ∧ lwL L2 (i + Int32.ofInt 6) ∧ Pn (some xs) m 373 23 L2 [] H2 r H' := by
  obtain ⟨y0, ⟨-, ey0⟩, L1, hL1, r1, H1, q1, k1⟩ := la_2 hT hL h
  rw [hy.1 _ ey0] at q1
  have ed1 := lg_2a hT q1
  rcases k1 with ⟨v1, e1, h1⟩ | ⟨E, -, z, -⟩
  rotate_left
  · exact Or.inl ⟨E, z⟩
  obtain ⟨s0, hs0⟩ := lRi ed1 rfl e1
  rw [hs0] at h1
  obtain ⟨y0', ⟨-, ey0'⟩, L2, hL2, r2, H2, q2, k2⟩ := lb_2 ed1.1 hL1 h1
  rw [hy.1 _ ey0'] at q2
  have ed2 := lg_2b ed1.1 q2
  rcases k2 with ⟨v2, e2, h2⟩ | ⟨E, -, z, -⟩
  rotate_left
  · exact Or.inl ⟨E, z⟩
  obtain ⟨s1, hs1⟩ := lRi ed2 rfl e2
  rw [hs1] at h2
  obtain ⟨L3, hL3, h3⟩ := lc_2 ed2.1 hL2 h2
  exact Or.inr ⟨L3, H2, ⟨_, _, _, _, H1, q1, q2, ⟨_, e1⟩, _, e2⟩, ed2.1, hL3, h3⟩
/-- tongue -/
def lq_3 (y : Nat → Int32) (H H2 : mjH) : Prop := ∃ (m1 m2 : Nat) (r1 r2 : Option Value ⊕ Nat) (H1 : mjH), Pn none m1 332 0 [(0, .ref 0), (1, .int (y 1)), (2, .ref 578)] [] H r1 H1 ∧ Pn none m2 236 0 [(0, .ref 78), (1, .int (y 1))] [] H1 r2 H2 ∧ (∃ v1, r1 = .inl v1) ∧ ∃ v2, r2 = .inl v2
theorem lg_3a (hT : HT H) (q : Pn none m 332 0 [(0, .ref 0), (1, .int (y 1)), (2, .ref 578)] [] H r H') : frEd lM61 H r H' := lFr (M := lM61) (s := ([(0, .inl [0]), (1, .inr false), (2, .inl [578])], [])) lIn61 rfl (by decide +kernel) rfl (frLR_c rfl ⟨0, List.mem_singleton.mpr rfl, rfl⟩ (frLR_c rfl ⟨_, rfl⟩ (frLR_c rfl ⟨578, List.mem_singleton.mpr rfl, rfl⟩ frLR_n))) hT q
theorem lg_3b (hT : HT H) (q : Pn none m 236 0 [(0, .ref 78), (1, .int (y 1))] [] H r H') : frEd lM171 H r H' := lFr (M := lM171) (s := ([(0, .inl [78]), (1, .inr false)], [])) lIn171 rfl (by decide +kernel) rfl (frLR_c rfl ⟨78, List.mem_singleton.mpr rfl, rfl⟩ (frLR_c rfl ⟨_, rfl⟩ frLR_n)) hT q
theorem lf_3 (hT : HT H) (q : lq_3 y H H2) : HT H2 ∧ ∀ a b, frIn (lM61).2.2.1 a b = false → frIn (lM171).2.2.1 a b = false → sxEl H2 a b = sxEl H a b := by
  obtain ⟨m1, m2, r1, r2, H1, q1, q2, -⟩ := q
  have e1 := lg_3a hT q1
  have e2 := lg_3b e1.1 q2
  exact ⟨e2.1, fun a b z1 z2 => (e2.2.1 a b z2).trans (e1.2.1 a b z1)⟩
theorem ld_3 (q : lq_3 y H H2) (q' : lq_3 y H H3) : H3 = H2 := by
  obtain ⟨m1, m2, r1, r2, H1, q1, q2, -⟩ := q
  obtain ⟨m1', m2', r1', r2', H1', q1', q2', -⟩ := q'
  obtain ⟨-, e⟩ := Pn_det q1 q1'
  rw [e] at q2'
  exact (Pn_det q2 q2').2
theorem ln_3 (hT : HT H) (hL : lwL L i) (hy : lwY xs i y) (h : Pn (some xs) m 373 417 L [] H r H') : (∃ E, r = .inr E) ∨ ∃ (L2 : mjL) (H2 : mjH), lq_3 y H H2 ∧ HT H2 ∧ lwL L2 (i + Int32.ofInt 6) ∧ Pn (some xs) m 373 23 L2 [] H2 r H' := by
  obtain ⟨y0, ⟨-, ey0⟩, L1, hL1, r1, H1, q1, k1⟩ := la_3 hT hL h
  rw [hy.1 _ ey0] at q1
  have ed1 := lg_3a hT q1
  rcases k1 with ⟨v1, e1, h1⟩ | ⟨E, -, z, -⟩
  rotate_left
  · exact Or.inl ⟨E, z⟩
  obtain ⟨s0, hs0⟩ := lRi ed1 rfl e1
  rw [hs0] at h1
  obtain ⟨y0', ⟨-, ey0'⟩, L2, hL2, r2, H2, q2, k2⟩ := lb_3 ed1.1 hL1 h1
  rw [hy.1 _ ey0'] at q2
  have ed2 := lg_3b ed1.1 q2
  rcases k2 with ⟨v2, e2, h2⟩ | ⟨E, -, z, -⟩
  rotate_left
  · exact Or.inl ⟨E, z⟩
  obtain ⟨s1, hs1⟩ := lRi ed2 rfl e2
  rw [hs1] at h2
  obtain ⟨L3, hL3, h3⟩ := lc_3 ed2.1 hL2 h2
  exact Or.inr ⟨L3, H2, ⟨_, _, _, _, H1, q1, q2, ⟨_, e1⟩, _, e2⟩, ed2.1, hL3, h3⟩
/-- fault -/
def lq_4 (y : Nat → Int32) (H H2 : mjH) : Prop := ∃ (m1 m2 : Nat) (r1 r2 : Option Value ⊕ Nat) (H1 : mjH), Pn none m1 117 0 [(0, .ref 0)] [] H r1 H1 ∧ Pn none m2 241 0 [(0, .ref 78)] [] H1 r2 H2 ∧ (∃ v1, r1 = .inl v1) ∧ ∃ v2, r2 = .inl v2
theorem lg_4a (hT : HT H) (q : Pn none m 117 0 [(0, .ref 0)] [] H r H') : frEd lM62 H r H' := lFr (M := lM62) (s := ([(0, .inl [0])], [])) lIn62 rfl (by decide +kernel) rfl (frLR_c rfl ⟨0, List.mem_singleton.mpr rfl, rfl⟩ frLR_n) hT q
theorem lg_4b (hT : HT H) (q : Pn none m 241 0 [(0, .ref 78)] [] H r H') : frEd lM172 H r H' := lFr (M := lM172) (s := ([(0, .inl [78])], [])) lIn172 rfl (by decide +kernel) rfl (frLR_c rfl ⟨78, List.mem_singleton.mpr rfl, rfl⟩ frLR_n) hT q
theorem lf_4 (hT : HT H) (q : lq_4 y H H2) : HT H2 ∧ ∀ a b, frIn (lM62).2.2.1 a b = false → frIn (lM172).2.2.1 a b = false → sxEl H2 a b = sxEl H a b := by
  obtain ⟨m1, m2, r1, r2, H1, q1, q2, -⟩ := q
  have e1 := lg_4a hT q1
  have e2 := lg_4b e1.1 q2
  exact ⟨e2.1, fun a b z1 z2 => (e2.2.1 a b z2).trans (e1.2.1 a b z1)⟩
theorem ld_4 (q : lq_4 y H H2) (q' : lq_4 y H H3) : H3 = H2 := by
  obtain ⟨m1, m2, r1, r2, H1, q1, q2, -⟩ := q
  obtain ⟨m1', m2', r1', r2', H1', q1', q2', -⟩ := q'
  obtain ⟨-, e⟩ := Pn_det q1 q1'
  rw [e] at q2'
  exact (Pn_det q2 q2').2
theorem ln_4 (hT : HT H) (hL : lwL L i) (hy : lwY xs i y) (h : Pn (some xs) m 373 445 L [] H r H') : (∃ E, r = .inr E) ∨ ∃ (L2 : mjL) (H2 : mjH), lq_4 y H H2 ∧ HT H2 ∧ lwL L2 (i + Int32.ofInt 6) ∧ Pn (some xs) m 373 23 L2 [] H2 r H' := by
  obtain ⟨L1, hL1, r1, H1, q1, k1⟩ := la_4 hT hL h
  have ed1 := lg_4a hT q1
  rcases k1 with ⟨v1, e1, h1⟩ | ⟨E, -, z, -⟩
  rotate_left
  · exact Or.inl ⟨E, z⟩
  obtain ⟨s0, hs0⟩ := lRi ed1 rfl e1
  rw [hs0] at h1
  obtain ⟨L2, hL2, r2, H2, q2, k2⟩ := lb_4 ed1.1 hL1 h1
  have ed2 := lg_4b ed1.1 q2
  rcases k2 with ⟨v2, e2, h2⟩ | ⟨E, -, z, -⟩
  rotate_left
  · exact Or.inl ⟨E, z⟩
  obtain ⟨s1, hs1⟩ := lRi ed2 rfl e2
  rw [hs1] at h2
  obtain ⟨L3, hL3, h3⟩ := lc_4 ed2.1 hL2 h2
  exact Or.inr ⟨L3, H2, ⟨_, _, _, _, H1, q1, q2, ⟨_, e1⟩, _, e2⟩, ed2.1, hL3, h3⟩
/-- told -/
def lq_5 (y : Nat → Int32) (H H2 : mjH) : Prop := ∃ (m1 m2 : Nat) (r1 r2 : Option Value ⊕ Nat) (H1 : mjH), Pn none m1 333 0 [(0, .ref 0), (1, .int (y 1)), (2, .ref 578)] [] H r1 H1 ∧ Pn none m2 242 0 [(0, .ref 78), (1, .int (y 1))] [] H1 r2 H2 ∧ (∃ v1, r1 = .inl v1) ∧ ∃ v2, r2 = .inl v2
theorem lg_5a (hT : HT H) (q : Pn none m 333 0 [(0, .ref 0), (1, .int (y 1)), (2, .ref 578)] [] H r H') : frEd lM63 H r H' := lFr (M := lM63) (s := ([(0, .inl [0]), (1, .inr false), (2, .inl [578])], [])) lIn63 rfl (by decide +kernel) rfl (frLR_c rfl ⟨0, List.mem_singleton.mpr rfl, rfl⟩ (frLR_c rfl ⟨_, rfl⟩ (frLR_c rfl ⟨578, List.mem_singleton.mpr rfl, rfl⟩ frLR_n))) hT q
theorem lg_5b (hT : HT H) (q : Pn none m 242 0 [(0, .ref 78), (1, .int (y 1))] [] H r H') : frEd lM173 H r H' := lFr (M := lM173) (s := ([(0, .inl [78]), (1, .inr false)], [])) lIn173 rfl (by decide +kernel) rfl (frLR_c rfl ⟨78, List.mem_singleton.mpr rfl, rfl⟩ (frLR_c rfl ⟨_, rfl⟩ frLR_n)) hT q
theorem lf_5 (hT : HT H) (q : lq_5 y H H2) : HT H2 ∧ ∀ a b, frIn (lM63).2.2.1 a b = false → frIn (lM173).2.2.1 a b = false → sxEl H2 a b = sxEl H a b := by
  obtain ⟨m1, m2, r1, r2, H1, q1, q2, -⟩ := q
  have e1 := lg_5a hT q1
  have e2 := lg_5b e1.1 q2
  exact ⟨e2.1, fun a b z1 z2 => (e2.2.1 a b z2).trans (e1.2.1 a b z1)⟩
theorem ld_5 (q : lq_5 y H H2) (q' : lq_5 y H H3) : H3 = H2 := by
  obtain ⟨m1, m2, r1, r2, H1, q1, q2, -⟩ := q
  obtain ⟨m1', m2', r1', r2', H1', q1', q2', -⟩ := q'
  obtain ⟨-, e⟩ := Pn_det q1 q1'
  rw [e] at q2'
  exact (Pn_det q2 q2').2
theorem ln_5 (hT : HT H) (hL : lwL L i) (hy : lwY xs i y) (h : Pn (some xs) m 373 458 L [] H r H') : (∃ E, r = .inr E) ∨ ∃ (L2 : mjL) (H2 : mjH), lq_5 y H H2 ∧ HT H2 ∧ lwL L2 (i + Int32.ofInt 6) ∧ Pn (some xs) m 373 23 L2 [] H2 r H' := by
  obtain ⟨y0, ⟨-, ey0⟩, L1, hL1, r1, H1, q1, k1⟩ := la_5 hT hL h
  rw [hy.1 _ ey0] at q1
  have ed1 := lg_5a hT q1
  rcases k1 with ⟨v1, e1, h1⟩ | ⟨E, -, z, -⟩
  rotate_left
  · exact Or.inl ⟨E, z⟩
  obtain ⟨s0, hs0⟩ := lRi ed1 rfl e1
  rw [hs0] at h1
  obtain ⟨y0', ⟨-, ey0'⟩, L2, hL2, r2, H2, q2, k2⟩ := lb_5 ed1.1 hL1 h1
  rw [hy.1 _ ey0'] at q2
  have ed2 := lg_5b ed1.1 q2
  rcases k2 with ⟨v2, e2, h2⟩ | ⟨E, -, z, -⟩
  rotate_left
  · exact Or.inl ⟨E, z⟩
  obtain ⟨s1, hs1⟩ := lRi ed2 rfl e2
  rw [hs1] at h2
  obtain ⟨L3, hL3, h3⟩ := lc_5 ed2.1 hL2 h2
  exact Or.inr ⟨L3, H2, ⟨_, _, _, _, H1, q1, q2, ⟨_, e1⟩, _, e2⟩, ed2.1, hL3, h3⟩
/-- models -/
def lq_6 (y : Nat → Int32) (H H2 : mjH) : Prop := ∃ (m1 m2 : Nat) (r1 r2 : Option Value ⊕ Nat) (H1 : mjH), Pn none m1 334 0 [(0, .ref 0), (1, .int (y 1)), (2, .ref 578)] [] H r1 H1 ∧ Pn none m2 246 0 [(0, .ref 78), (1, .int (y 1))] [] H1 r2 H2 ∧ (∃ v1, r1 = .inl v1) ∧ ∃ v2, r2 = .inl v2
theorem lg_6a (hT : HT H) (q : Pn none m 334 0 [(0, .ref 0), (1, .int (y 1)), (2, .ref 578)] [] H r H') : frEd lM64 H r H' := lFr (M := lM64) (s := ([(0, .inl [0]), (1, .inr false), (2, .inl [578])], [])) lIn64 rfl (by decide +kernel) rfl (frLR_c rfl ⟨0, List.mem_singleton.mpr rfl, rfl⟩ (frLR_c rfl ⟨_, rfl⟩ (frLR_c rfl ⟨578, List.mem_singleton.mpr rfl, rfl⟩ frLR_n))) hT q
theorem lg_6b (hT : HT H) (q : Pn none m 246 0 [(0, .ref 78), (1, .int (y 1))] [] H r H') : frEd lM174 H r H' := lFr (M := lM174) (s := ([(0, .inl [78]), (1, .inr false)], [])) lIn174 rfl (by decide +kernel) rfl (frLR_c rfl ⟨78, List.mem_singleton.mpr rfl, rfl⟩ (frLR_c rfl ⟨_, rfl⟩ frLR_n)) hT q
theorem lf_6 (hT : HT H) (q : lq_6 y H H2) : HT H2 ∧ ∀ a b, frIn (lM64).2.2.1 a b = false → frIn (lM174).2.2.1 a b = false → sxEl H2 a b = sxEl H a b := by
  obtain ⟨m1, m2, r1, r2, H1, q1, q2, -⟩ := q
  have e1 := lg_6a hT q1
  have e2 := lg_6b e1.1 q2
  exact ⟨e2.1, fun a b z1 z2 => (e2.2.1 a b z2).trans (e1.2.1 a b z1)⟩
theorem ld_6 (q : lq_6 y H H2) (q' : lq_6 y H H3) : H3 = H2 := by
  obtain ⟨m1, m2, r1, r2, H1, q1, q2, -⟩ := q
  obtain ⟨m1', m2', r1', r2', H1', q1', q2', -⟩ := q'
  obtain ⟨-, e⟩ := Pn_det q1 q1'
  rw [e] at q2'
  exact (Pn_det q2 q2').2
theorem ln_6 (hT : HT H) (hL : lwL L i) (hy : lwY xs i y) (h : Pn (some xs) m 373 486 L [] H r H') : (∃ E, r = .inr E) ∨ ∃ (L2 : mjL) (H2 : mjH), lq_6 y H H2 ∧ HT H2 ∧ lwL L2 (i + Int32.ofInt 6) ∧ Pn (some xs) m 373 23 L2 [] H2 r H' := by
  obtain ⟨y0, ⟨-, ey0⟩, L1, hL1, r1, H1, q1, k1⟩ := la_6 hT hL h
  rw [hy.1 _ ey0] at q1
  have ed1 := lg_6a hT q1
  rcases k1 with ⟨v1, e1, h1⟩ | ⟨E, -, z, -⟩
  rotate_left
  · exact Or.inl ⟨E, z⟩
  obtain ⟨s0, hs0⟩ := lRi ed1 rfl e1
  rw [hs0] at h1
  obtain ⟨y0', ⟨-, ey0'⟩, L2, hL2, r2, H2, q2, k2⟩ := lb_6 ed1.1 hL1 h1
  rw [hy.1 _ ey0'] at q2
  have ed2 := lg_6b ed1.1 q2
  rcases k2 with ⟨v2, e2, h2⟩ | ⟨E, -, z, -⟩
  rotate_left
  · exact Or.inl ⟨E, z⟩
  obtain ⟨s1, hs1⟩ := lRl ed2 rfl e2
  rw [hs1] at h2
  obtain ⟨L3, hL3, h3⟩ := lc_6 ed2.1 hL2 h2
  exact Or.inr ⟨L3, H2, ⟨_, _, _, _, H1, q1, q2, ⟨_, e1⟩, _, e2⟩, ed2.1, hL3, h3⟩
/-- seen -/
def lq_7 (y : Nat → Int32) (H H2 : mjH) : Prop := ∃ (m1 m2 : Nat) (r1 r2 : Option Value ⊕ Nat) (H1 : mjH), Pn none m1 335 0 [(0, .ref 0), (1, .int (y 1)), (2, .ref 578)] [] H r1 H1 ∧ Pn none m2 247 0 [(0, .ref 78), (1, .int (y 1))] [] H1 r2 H2 ∧ (∃ v1, r1 = .inl v1) ∧ ∃ v2, r2 = .inl v2
theorem lg_7a (hT : HT H) (q : Pn none m 335 0 [(0, .ref 0), (1, .int (y 1)), (2, .ref 578)] [] H r H') : frEd lM65 H r H' := lFr (M := lM65) (s := ([(0, .inl [0]), (1, .inr false), (2, .inl [578])], [])) lIn65 rfl (by decide +kernel) rfl (frLR_c rfl ⟨0, List.mem_singleton.mpr rfl, rfl⟩ (frLR_c rfl ⟨_, rfl⟩ (frLR_c rfl ⟨578, List.mem_singleton.mpr rfl, rfl⟩ frLR_n))) hT q
theorem lg_7b (hT : HT H) (q : Pn none m 247 0 [(0, .ref 78), (1, .int (y 1))] [] H r H') : frEd lM175 H r H' := lFr (M := lM175) (s := ([(0, .inl [78]), (1, .inr false)], [])) lIn175 rfl (by decide +kernel) rfl (frLR_c rfl ⟨78, List.mem_singleton.mpr rfl, rfl⟩ (frLR_c rfl ⟨_, rfl⟩ frLR_n)) hT q
theorem lf_7 (hT : HT H) (q : lq_7 y H H2) : HT H2 ∧ ∀ a b, frIn (lM65).2.2.1 a b = false → frIn (lM175).2.2.1 a b = false → sxEl H2 a b = sxEl H a b := by
  obtain ⟨m1, m2, r1, r2, H1, q1, q2, -⟩ := q
  have e1 := lg_7a hT q1
  have e2 := lg_7b e1.1 q2
  exact ⟨e2.1, fun a b z1 z2 => (e2.2.1 a b z2).trans (e1.2.1 a b z1)⟩
theorem ld_7 (q : lq_7 y H H2) (q' : lq_7 y H H3) : H3 = H2 := by
  obtain ⟨m1, m2, r1, r2, H1, q1, q2, -⟩ := q
  obtain ⟨m1', m2', r1', r2', H1', q1', q2', -⟩ := q'
  obtain ⟨-, e⟩ := Pn_det q1 q1'
  rw [e] at q2'
  exact (Pn_det q2 q2').2
theorem ln_7 (hT : HT H) (hL : lwL L i) (hy : lwY xs i y) (h : Pn (some xs) m 373 514 L [] H r H') : (∃ E, r = .inr E) ∨ ∃ (L2 : mjL) (H2 : mjH), lq_7 y H H2 ∧ HT H2 ∧ lwL L2 (i + Int32.ofInt 6) ∧ Pn (some xs) m 373 23 L2 [] H2 r H' := by
  obtain ⟨y0, ⟨-, ey0⟩, L1, hL1, r1, H1, q1, k1⟩ := la_7 hT hL h
  rw [hy.1 _ ey0] at q1
  have ed1 := lg_7a hT q1
  rcases k1 with ⟨v1, e1, h1⟩ | ⟨E, -, z, -⟩
  rotate_left
  · exact Or.inl ⟨E, z⟩
  obtain ⟨s0, hs0⟩ := lRi ed1 rfl e1
  rw [hs0] at h1
  obtain ⟨y0', ⟨-, ey0'⟩, L2, hL2, r2, H2, q2, k2⟩ := lb_7 ed1.1 hL1 h1
  rw [hy.1 _ ey0'] at q2
  have ed2 := lg_7b ed1.1 q2
  rcases k2 with ⟨v2, e2, h2⟩ | ⟨E, -, z, -⟩
  rotate_left
  · exact Or.inl ⟨E, z⟩
  obtain ⟨s1, hs1⟩ := lRl ed2 rfl e2
  rw [hs1] at h2
  obtain ⟨L3, hL3, h3⟩ := lc_7 ed2.1 hL2 h2
  exact Or.inr ⟨L3, H2, ⟨_, _, _, _, H1, q1, q2, ⟨_, e1⟩, _, e2⟩, ed2.1, hL3, h3⟩
/-- left -/
def lq_8 (y : Nat → Int32) (H H2 : mjH) : Prop := ∃ (m1 m2 : Nat) (r1 r2 : Option Value ⊕ Nat) (H1 : mjH), Pn none m1 336 0 [(0, .ref 0), (1, .int (y 1)), (2, .ref 578)] [] H r1 H1 ∧ Pn none m2 248 0 [(0, .ref 78), (1, .int (y 1))] [] H1 r2 H2 ∧ (∃ v1, r1 = .inl v1) ∧ ∃ v2, r2 = .inl v2
theorem lg_8a (hT : HT H) (q : Pn none m 336 0 [(0, .ref 0), (1, .int (y 1)), (2, .ref 578)] [] H r H') : frEd lM66 H r H' := lFr (M := lM66) (s := ([(0, .inl [0]), (1, .inr false), (2, .inl [578])], [])) lIn66 rfl (by decide +kernel) rfl (frLR_c rfl ⟨0, List.mem_singleton.mpr rfl, rfl⟩ (frLR_c rfl ⟨_, rfl⟩ (frLR_c rfl ⟨578, List.mem_singleton.mpr rfl, rfl⟩ frLR_n))) hT q
theorem lg_8b (hT : HT H) (q : Pn none m 248 0 [(0, .ref 78), (1, .int (y 1))] [] H r H') : frEd lM176 H r H' := lFr (M := lM176) (s := ([(0, .inl [78]), (1, .inr false)], [])) lIn176 rfl (by decide +kernel) rfl (frLR_c rfl ⟨78, List.mem_singleton.mpr rfl, rfl⟩ (frLR_c rfl ⟨_, rfl⟩ frLR_n)) hT q
theorem lf_8 (hT : HT H) (q : lq_8 y H H2) : HT H2 ∧ ∀ a b, frIn (lM66).2.2.1 a b = false → frIn (lM176).2.2.1 a b = false → sxEl H2 a b = sxEl H a b := by
  obtain ⟨m1, m2, r1, r2, H1, q1, q2, -⟩ := q
  have e1 := lg_8a hT q1
  have e2 := lg_8b e1.1 q2
  exact ⟨e2.1, fun a b z1 z2 => (e2.2.1 a b z2).trans (e1.2.1 a b z1)⟩
theorem ld_8 (q : lq_8 y H H2) (q' : lq_8 y H H3) : H3 = H2 := by
  obtain ⟨m1, m2, r1, r2, H1, q1, q2, -⟩ := q
  obtain ⟨m1', m2', r1', r2', H1', q1', q2', -⟩ := q'
  obtain ⟨-, e⟩ := Pn_det q1 q1'
  rw [e] at q2'
  exact (Pn_det q2 q2').2
theorem ln_8 (hT : HT H) (hL : lwL L i) (hy : lwY xs i y) (h : Pn (some xs) m 373 542 L [] H r H') : (∃ E, r = .inr E) ∨ ∃ (L2 : mjL) (H2 : mjH), lq_8 y H H2 ∧ HT H2 ∧ lwL L2 (i + Int32.ofInt 6) ∧ Pn (some xs) m 373 23 L2 [] H2 r H' := by
  obtain ⟨y0, ⟨-, ey0⟩, L1, hL1, r1, H1, q1, k1⟩ := la_8 hT hL h
  rw [hy.1 _ ey0] at q1
  have ed1 := lg_8a hT q1
  rcases k1 with ⟨v1, e1, h1⟩ | ⟨E, -, z, -⟩
  rotate_left
  · exact Or.inl ⟨E, z⟩
  obtain ⟨s0, hs0⟩ := lRi ed1 rfl e1
  rw [hs0] at h1
  obtain ⟨y0', ⟨-, ey0'⟩, L2, hL2, r2, H2, q2, k2⟩ := lb_8 ed1.1 hL1 h1
  rw [hy.1 _ ey0'] at q2
  have ed2 := lg_8b ed1.1 q2
  rcases k2 with ⟨v2, e2, h2⟩ | ⟨E, -, z, -⟩
  rotate_left
  · exact Or.inl ⟨E, z⟩
  obtain ⟨s1, hs1⟩ := lRl ed2 rfl e2
  rw [hs1] at h2
  obtain ⟨L3, hL3, h3⟩ := lc_8 ed2.1 hL2 h2
  exact Or.inr ⟨L3, H2, ⟨_, _, _, _, H1, q1, q2, ⟨_, e1⟩, _, e2⟩, ed2.1, hL3, h3⟩
/-- kin -/
def lq_9 (y : Nat → Int32) (H H2 : mjH) : Prop := ∃ (m1 m2 : Nat) (r1 r2 : Option Value ⊕ Nat) (H1 : mjH), Pn none m1 337 0 [(0, .ref 0), (1, .int (y 1)), (2, .int (y 2)), (3, .ref 578)] [] H r1 H1 ∧ Pn none m2 249 0 [(0, .ref 78), (1, .int (y 1)), (2, .int (y 2))] [] H1 r2 H2 ∧ (∃ v1, r1 = .inl v1) ∧ ∃ v2, r2 = .inl v2
theorem lg_9a (hT : HT H) (q : Pn none m 337 0 [(0, .ref 0), (1, .int (y 1)), (2, .int (y 2)), (3, .ref 578)] [] H r H') : frEd lM67 H r H' := lFr (M := lM67) (s := ([(0, .inl [0]), (1, .inr false), (2, .inr false), (3, .inl [578])], [])) lIn67 rfl (by decide +kernel) rfl (frLR_c rfl ⟨0, List.mem_singleton.mpr rfl, rfl⟩ (frLR_c rfl ⟨_, rfl⟩ (frLR_c rfl ⟨_, rfl⟩ (frLR_c rfl ⟨578, List.mem_singleton.mpr rfl, rfl⟩ frLR_n)))) hT q
theorem lg_9b (hT : HT H) (q : Pn none m 249 0 [(0, .ref 78), (1, .int (y 1)), (2, .int (y 2))] [] H r H') : frEd lM177 H r H' := lFr (M := lM177) (s := ([(0, .inl [78]), (1, .inr false), (2, .inr false)], [])) lIn177 rfl (by decide +kernel) rfl (frLR_c rfl ⟨78, List.mem_singleton.mpr rfl, rfl⟩ (frLR_c rfl ⟨_, rfl⟩ (frLR_c rfl ⟨_, rfl⟩ frLR_n))) hT q
theorem lf_9 (hT : HT H) (q : lq_9 y H H2) : HT H2 ∧ ∀ a b, frIn (lM67).2.2.1 a b = false → frIn (lM177).2.2.1 a b = false → sxEl H2 a b = sxEl H a b := by
  obtain ⟨m1, m2, r1, r2, H1, q1, q2, -⟩ := q
  have e1 := lg_9a hT q1
  have e2 := lg_9b e1.1 q2
  exact ⟨e2.1, fun a b z1 z2 => (e2.2.1 a b z2).trans (e1.2.1 a b z1)⟩
theorem ld_9 (q : lq_9 y H H2) (q' : lq_9 y H H3) : H3 = H2 := by
  obtain ⟨m1, m2, r1, r2, H1, q1, q2, -⟩ := q
  obtain ⟨m1', m2', r1', r2', H1', q1', q2', -⟩ := q'
  obtain ⟨-, e⟩ := Pn_det q1 q1'
  rw [e] at q2'
  exact (Pn_det q2 q2').2
theorem ln_9 (hT : HT H) (hL : lwL L i) (hy : lwY xs i y) (h : Pn (some xs) m 373 570 L [] H r H') : (∃ E, r = .inr E) ∨ ∃ (L2 : mjL) (H2 : mjH), lq_9 y H H2 ∧ HT H2 ∧ lwL L2 (i + Int32.ofInt 6) ∧ Pn (some xs) m 373 23 L2 [] H2 r H' := by
  obtain ⟨y0, ⟨-, ey0⟩, y1, ⟨-, ey1⟩, L1, hL1, r1, H1, q1, k1⟩ := la_9 hT hL h
  rw [hy.1 _ ey0] at q1
  rw [hy.2.1 _ ey1] at q1
  have ed1 := lg_9a hT q1
  rcases k1 with ⟨v1, e1, h1⟩ | ⟨E, -, z, -⟩
  rotate_left
  · exact Or.inl ⟨E, z⟩
  obtain ⟨s0, hs0⟩ := lRi ed1 rfl e1
  rw [hs0] at h1
  obtain ⟨y0', ⟨-, ey0'⟩, y1', ⟨-, ey1'⟩, L2, hL2, r2, H2, q2, k2⟩ := lb_9 ed1.1 hL1 h1
  rw [hy.1 _ ey0'] at q2
  rw [hy.2.1 _ ey1'] at q2
  have ed2 := lg_9b ed1.1 q2
  rcases k2 with ⟨v2, e2, h2⟩ | ⟨E, -, z, -⟩
  rotate_left
  · exact Or.inl ⟨E, z⟩
  obtain ⟨s1, hs1⟩ := lRi ed2 rfl e2
  rw [hs1] at h2
  obtain ⟨L3, hL3, h3⟩ := lc_9 ed2.1 hL2 h2
  exact Or.inr ⟨L3, H2, ⟨_, _, _, _, H1, q1, q2, ⟨_, e1⟩, _, e2⟩, ed2.1, hL3, h3⟩
/-- fallOut -/
def lq_10 (y : Nat → Int32) (H H2 : mjH) : Prop := ∃ (m1 m2 : Nat) (r1 r2 : Option Value ⊕ Nat) (H1 : mjH), Pn none m1 338 0 [(0, .ref 0), (1, .int (y 1)), (2, .int (y 2)), (3, .int (y 3)), (4, .ref 578)] [] H r1 H1 ∧ Pn none m2 251 0 [(0, .ref 78), (1, .int (y 1)), (2, .int (y 2)), (3, .int (y 3))] [] H1 r2 H2 ∧ (∃ v1, r1 = .inl v1) ∧ ∃ v2, r2 = .inl v2
theorem lg_10a (hT : HT H) (q : Pn none m 338 0 [(0, .ref 0), (1, .int (y 1)), (2, .int (y 2)), (3, .int (y 3)), (4, .ref 578)] [] H r H') : frEd lM68 H r H' := lFr (M := lM68) (s := ([(0, .inl [0]), (1, .inr false), (2, .inr false), (3, .inr false), (4, .inl [578])], [])) lIn68 rfl (by decide +kernel) rfl (frLR_c rfl ⟨0, List.mem_singleton.mpr rfl, rfl⟩ (frLR_c rfl ⟨_, rfl⟩ (frLR_c rfl ⟨_, rfl⟩ (frLR_c rfl ⟨_, rfl⟩ (frLR_c rfl ⟨578, List.mem_singleton.mpr rfl, rfl⟩ frLR_n))))) hT q
theorem lg_10b (hT : HT H) (q : Pn none m 251 0 [(0, .ref 78), (1, .int (y 1)), (2, .int (y 2)), (3, .int (y 3))] [] H r H') : frEd lM178 H r H' := lFr (M := lM178) (s := ([(0, .inl [78]), (1, .inr false), (2, .inr false), (3, .inr false)], [])) lIn178 rfl (by decide +kernel) rfl (frLR_c rfl ⟨78, List.mem_singleton.mpr rfl, rfl⟩ (frLR_c rfl ⟨_, rfl⟩ (frLR_c rfl ⟨_, rfl⟩ (frLR_c rfl ⟨_, rfl⟩ frLR_n)))) hT q
theorem lf_10 (hT : HT H) (q : lq_10 y H H2) : HT H2 ∧ ∀ a b, frIn (lM68).2.2.1 a b = false → frIn (lM178).2.2.1 a b = false → sxEl H2 a b = sxEl H a b := by
  obtain ⟨m1, m2, r1, r2, H1, q1, q2, -⟩ := q
  have e1 := lg_10a hT q1
  have e2 := lg_10b e1.1 q2
  exact ⟨e2.1, fun a b z1 z2 => (e2.2.1 a b z2).trans (e1.2.1 a b z1)⟩
theorem ld_10 (q : lq_10 y H H2) (q' : lq_10 y H H3) : H3 = H2 := by
  obtain ⟨m1, m2, r1, r2, H1, q1, q2, -⟩ := q
  obtain ⟨m1', m2', r1', r2', H1', q1', q2', -⟩ := q'
  obtain ⟨-, e⟩ := Pn_det q1 q1'
  rw [e] at q2'
  exact (Pn_det q2 q2').2
theorem ln_10 (hT : HT H) (hL : lwL L i) (hy : lwY xs i y) (h : Pn (some xs) m 373 610 L [] H r H') : (∃ E, r = .inr E) ∨ ∃ (L2 : mjL) (H2 : mjH), lq_10 y H H2 ∧ HT H2 ∧ lwL L2 (i + Int32.ofInt 6) ∧ Pn (some xs) m 373 23 L2 [] H2 r H' := by
  obtain ⟨y0, ⟨-, ey0⟩, y1, ⟨-, ey1⟩, y2, ⟨-, ey2⟩, L1, hL1, r1, H1, q1, k1⟩ := la_10 hT hL h
  rw [hy.1 _ ey0] at q1
  rw [hy.2.1 _ ey1] at q1
  rw [hy.2.2.1 _ ey2] at q1
  have ed1 := lg_10a hT q1
  rcases k1 with ⟨v1, e1, h1⟩ | ⟨E, -, z, -⟩
  rotate_left
  · exact Or.inl ⟨E, z⟩
  obtain ⟨s0, hs0⟩ := lRi ed1 rfl e1
  rw [hs0] at h1
  obtain ⟨y0', ⟨-, ey0'⟩, y1', ⟨-, ey1'⟩, y2', ⟨-, ey2'⟩, L2, hL2, r2, H2, q2, k2⟩ := lb_10 ed1.1 hL1 h1
  rw [hy.1 _ ey0'] at q2
  rw [hy.2.1 _ ey1'] at q2
  rw [hy.2.2.1 _ ey2'] at q2
  have ed2 := lg_10b ed1.1 q2
  rcases k2 with ⟨v2, e2, h2⟩ | ⟨E, -, z, -⟩
  rotate_left
  · exact Or.inl ⟨E, z⟩
  obtain ⟨s1, hs1⟩ := lRi ed2 rfl e2
  rw [hs1] at h2
  obtain ⟨L3, hL3, h3⟩ := lc_10 ed2.1 hL2 h2
  exact Or.inr ⟨L3, H2, ⟨_, _, _, _, H1, q1, q2, ⟨_, e1⟩, _, e2⟩, ed2.1, hL3, h3⟩
/-- truths -/
def lq_11 (y : Nat → Int32) (H H2 : mjH) : Prop := ∃ (m1 m2 : Nat) (r1 r2 : Option Value ⊕ Nat) (H1 : mjH), Pn none m1 124 0 [(0, .ref 0)] [] H r1 H1 ∧ Pn none m2 254 0 [(0, .ref 78)] [] H1 r2 H2 ∧ (∃ v1, r1 = .inl v1) ∧ ∃ v2, r2 = .inl v2
theorem lg_11a (hT : HT H) (q : Pn none m 124 0 [(0, .ref 0)] [] H r H') : frEd lM69 H r H' := lFr (M := lM69) (s := ([(0, .inl [0])], [])) lIn69 rfl (by decide +kernel) rfl (frLR_c rfl ⟨0, List.mem_singleton.mpr rfl, rfl⟩ frLR_n) hT q
theorem lg_11b (hT : HT H) (q : Pn none m 254 0 [(0, .ref 78)] [] H r H') : frEd lM179 H r H' := lFr (M := lM179) (s := ([(0, .inl [78])], [])) lIn179 rfl (by decide +kernel) rfl (frLR_c rfl ⟨78, List.mem_singleton.mpr rfl, rfl⟩ frLR_n) hT q
theorem lf_11 (hT : HT H) (q : lq_11 y H H2) : HT H2 ∧ ∀ a b, frIn (lM69).2.2.1 a b = false → frIn (lM179).2.2.1 a b = false → sxEl H2 a b = sxEl H a b := by
  obtain ⟨m1, m2, r1, r2, H1, q1, q2, -⟩ := q
  have e1 := lg_11a hT q1
  have e2 := lg_11b e1.1 q2
  exact ⟨e2.1, fun a b z1 z2 => (e2.2.1 a b z2).trans (e1.2.1 a b z1)⟩
theorem ld_11 (q : lq_11 y H H2) (q' : lq_11 y H H3) : H3 = H2 := by
  obtain ⟨m1, m2, r1, r2, H1, q1, q2, -⟩ := q
  obtain ⟨m1', m2', r1', r2', H1', q1', q2', -⟩ := q'
  obtain ⟨-, e⟩ := Pn_det q1 q1'
  rw [e] at q2'
  exact (Pn_det q2 q2').2
theorem ln_11 (hT : HT H) (hL : lwL L i) (hy : lwY xs i y) (h : Pn (some xs) m 373 662 L [] H r H') : (∃ E, r = .inr E) ∨ ∃ (L2 : mjL) (H2 : mjH), lq_11 y H H2 ∧ HT H2 ∧ lwL L2 (i + Int32.ofInt 6) ∧ Pn (some xs) m 373 23 L2 [] H2 r H' := by
  obtain ⟨L1, hL1, r1, H1, q1, k1⟩ := la_11 hT hL h
  have ed1 := lg_11a hT q1
  rcases k1 with ⟨v1, e1, h1⟩ | ⟨E, -, z, -⟩
  rotate_left
  · exact Or.inl ⟨E, z⟩
  obtain ⟨s0, hs0⟩ := lRi ed1 rfl e1
  rw [hs0] at h1
  obtain ⟨L2, hL2, r2, H2, q2, k2⟩ := lb_11 ed1.1 hL1 h1
  have ed2 := lg_11b ed1.1 q2
  rcases k2 with ⟨v2, e2, h2⟩ | ⟨E, -, z, -⟩
  rotate_left
  · exact Or.inl ⟨E, z⟩
  obtain ⟨s1, hs1⟩ := lRi ed2 rfl e2
  rw [hs1] at h2
  obtain ⟨L3, hL3, h3⟩ := lc_11 ed2.1 hL2 h2
  exact Or.inr ⟨L3, H2, ⟨_, _, _, _, H1, q1, q2, ⟨_, e1⟩, _, e2⟩, ed2.1, hL3, h3⟩
/-- dull -/
def lq_12 (y : Nat → Int32) (H H2 : mjH) : Prop := ∃ (m1 m2 : Nat) (r1 r2 : Option Value ⊕ Nat) (H1 : mjH), Pn none m1 125 0 [(0, .ref 0)] [] H r1 H1 ∧ Pn none m2 255 0 [(0, .ref 78)] [] H1 r2 H2 ∧ (∃ v1, r1 = .inl v1) ∧ ∃ v2, r2 = .inl v2
theorem lg_12a (hT : HT H) (q : Pn none m 125 0 [(0, .ref 0)] [] H r H') : frEd lM70 H r H' := lFr (M := lM70) (s := ([(0, .inl [0])], [])) lIn70 rfl (by decide +kernel) rfl (frLR_c rfl ⟨0, List.mem_singleton.mpr rfl, rfl⟩ frLR_n) hT q
theorem lg_12b (hT : HT H) (q : Pn none m 255 0 [(0, .ref 78)] [] H r H') : frEd lM180 H r H' := lFr (M := lM180) (s := ([(0, .inl [78])], [])) lIn180 rfl (by decide +kernel) rfl (frLR_c rfl ⟨78, List.mem_singleton.mpr rfl, rfl⟩ frLR_n) hT q
theorem lf_12 (hT : HT H) (q : lq_12 y H H2) : HT H2 ∧ ∀ a b, frIn (lM70).2.2.1 a b = false → frIn (lM180).2.2.1 a b = false → sxEl H2 a b = sxEl H a b := by
  obtain ⟨m1, m2, r1, r2, H1, q1, q2, -⟩ := q
  have e1 := lg_12a hT q1
  have e2 := lg_12b e1.1 q2
  exact ⟨e2.1, fun a b z1 z2 => (e2.2.1 a b z2).trans (e1.2.1 a b z1)⟩
theorem ld_12 (q : lq_12 y H H2) (q' : lq_12 y H H3) : H3 = H2 := by
  obtain ⟨m1, m2, r1, r2, H1, q1, q2, -⟩ := q
  obtain ⟨m1', m2', r1', r2', H1', q1', q2', -⟩ := q'
  obtain ⟨-, e⟩ := Pn_det q1 q1'
  rw [e] at q2'
  exact (Pn_det q2 q2').2
theorem ln_12 (hT : HT H) (hL : lwL L i) (hy : lwY xs i y) (h : Pn (some xs) m 373 675 L [] H r H') : (∃ E, r = .inr E) ∨ ∃ (L2 : mjL) (H2 : mjH), lq_12 y H H2 ∧ HT H2 ∧ lwL L2 (i + Int32.ofInt 6) ∧ Pn (some xs) m 373 23 L2 [] H2 r H' := by
  obtain ⟨L1, hL1, r1, H1, q1, k1⟩ := la_12 hT hL h
  have ed1 := lg_12a hT q1
  rcases k1 with ⟨v1, e1, h1⟩ | ⟨E, -, z, -⟩
  rotate_left
  · exact Or.inl ⟨E, z⟩
  obtain ⟨s0, hs0⟩ := lRi ed1 rfl e1
  rw [hs0] at h1
  obtain ⟨L2, hL2, r2, H2, q2, k2⟩ := lb_12 ed1.1 hL1 h1
  have ed2 := lg_12b ed1.1 q2
  rcases k2 with ⟨v2, e2, h2⟩ | ⟨E, -, z, -⟩
  rotate_left
  · exact Or.inl ⟨E, z⟩
  obtain ⟨s1, hs1⟩ := lRi ed2 rfl e2
  rw [hs1] at h2
  obtain ⟨L3, hL3, h3⟩ := lc_12 ed2.1 hL2 h2
  exact Or.inr ⟨L3, H2, ⟨_, _, _, _, H1, q1, q2, ⟨_, e1⟩, _, e2⟩, ed2.1, hL3, h3⟩
/-- order -/
def lq_13 (y : Nat → Int32) (H H2 : mjH) : Prop := ∃ (m1 m2 : Nat) (r1 r2 : Option Value ⊕ Nat) (H1 : mjH), Pn none m1 126 0 [(0, .ref 0), (1, .long ((((y 1).toInt64) <<< ((Int32.ofInt 32).toInt64 &&& 63)) ||| (((y 2).toInt64) &&& (Int64.ofNat 4294967295))))] [] H r1 H1 ∧ Pn none m2 256 0 [(0, .ref 78), (1, .long ((((y 1).toInt64) <<< ((Int32.ofInt 32).toInt64 &&& 63)) ||| (((y 2).toInt64) &&& (Int64.ofNat 4294967295))))] [] H1 r2 H2 ∧ (∃ v1, r1 = .inl v1) ∧ ∃ v2, r2 = .inl v2
theorem lg_13a (hT : HT H) (q : Pn none m 126 0 [(0, .ref 0), (1, .long ((((y 1).toInt64) <<< ((Int32.ofInt 32).toInt64 &&& 63)) ||| (((y 2).toInt64) &&& (Int64.ofNat 4294967295))))] [] H r H') : frEd lM71 H r H' := lFr (M := lM71) (s := ([(0, .inl [0]), (1, .inr true)], [])) lIn71 rfl (by decide +kernel) rfl (frLR_c rfl ⟨0, List.mem_singleton.mpr rfl, rfl⟩ (frLR_c rfl ⟨_, rfl⟩ frLR_n)) hT q
theorem lg_13b (hT : HT H) (q : Pn none m 256 0 [(0, .ref 78), (1, .long ((((y 1).toInt64) <<< ((Int32.ofInt 32).toInt64 &&& 63)) ||| (((y 2).toInt64) &&& (Int64.ofNat 4294967295))))] [] H r H') : frEd lM181 H r H' := lFr (M := lM181) (s := ([(0, .inl [78]), (1, .inr true)], [])) lIn181 rfl (by decide +kernel) rfl (frLR_c rfl ⟨78, List.mem_singleton.mpr rfl, rfl⟩ (frLR_c rfl ⟨_, rfl⟩ frLR_n)) hT q
theorem lf_13 (hT : HT H) (q : lq_13 y H H2) : HT H2 ∧ ∀ a b, frIn (lM71).2.2.1 a b = false → frIn (lM181).2.2.1 a b = false → sxEl H2 a b = sxEl H a b := by
  obtain ⟨m1, m2, r1, r2, H1, q1, q2, -⟩ := q
  have e1 := lg_13a hT q1
  have e2 := lg_13b e1.1 q2
  exact ⟨e2.1, fun a b z1 z2 => (e2.2.1 a b z2).trans (e1.2.1 a b z1)⟩
theorem ld_13 (q : lq_13 y H H2) (q' : lq_13 y H H3) : H3 = H2 := by
  obtain ⟨m1, m2, r1, r2, H1, q1, q2, -⟩ := q
  obtain ⟨m1', m2', r1', r2', H1', q1', q2', -⟩ := q'
  obtain ⟨-, e⟩ := Pn_det q1 q1'
  rw [e] at q2'
  exact (Pn_det q2 q2').2
theorem ln_13 (hT : HT H) (hL : lwL L i) (hy : lwY xs i y) (h : Pn (some xs) m 373 688 L [] H r H') : (∃ E, r = .inr E) ∨ ∃ (L2 : mjL) (H2 : mjH), lq_13 y H H2 ∧ HT H2 ∧ lwL L2 (i + Int32.ofInt 6) ∧ Pn (some xs) m 373 23 L2 [] H2 r H' := by
  obtain ⟨y0, ⟨-, ey0⟩, y1, ⟨-, ey1⟩, L1, hL1, r1, H1, q1, k1⟩ := la_13 hT hL h
  rw [hy.1 _ ey0] at q1
  rw [hy.2.1 _ ey1] at q1
  have ed1 := lg_13a hT q1
  rcases k1 with ⟨v1, e1, h1⟩ | ⟨E, -, z, -⟩
  rotate_left
  · exact Or.inl ⟨E, z⟩
  obtain ⟨s0, hs0⟩ := lRi ed1 rfl e1
  rw [hs0] at h1
  obtain ⟨y0', ⟨-, ey0'⟩, y1', ⟨-, ey1'⟩, L2, hL2, r2, H2, q2, k2⟩ := lb_13 ed1.1 hL1 h1
  rw [hy.1 _ ey0'] at q2
  rw [hy.2.1 _ ey1'] at q2
  have ed2 := lg_13b ed1.1 q2
  rcases k2 with ⟨v2, e2, h2⟩ | ⟨E, -, z, -⟩
  rotate_left
  · exact Or.inl ⟨E, z⟩
  obtain ⟨s1, hs1⟩ := lRi ed2 rfl e2
  rw [hs1] at h2
  obtain ⟨L3, hL3, h3⟩ := lc_13 ed2.1 hL2 h2
  exact Or.inr ⟨L3, H2, ⟨_, _, _, _, H1, q1, q2, ⟨_, e1⟩, _, e2⟩, ed2.1, hL3, h3⟩
/-- at -/
def lq_14 (y : Nat → Int32) (H H2 : mjH) : Prop := ∃ (m1 m2 : Nat) (r1 r2 : Option Value ⊕ Nat) (H1 : mjH), Pn none m1 127 0 [(0, .ref 0), (1, .int (y 1))] [] H r1 H1 ∧ Pn none m2 257 0 [(0, .ref 78), (1, .int (y 1))] [] H1 r2 H2 ∧ (∃ v1, r1 = .inl v1) ∧ ∃ v2, r2 = .inl v2
theorem lg_14a (hT : HT H) (q : Pn none m 127 0 [(0, .ref 0), (1, .int (y 1))] [] H r H') : frEd lM72 H r H' := lFr (M := lM72) (s := ([(0, .inl [0]), (1, .inr false)], [])) lIn72 rfl (by decide +kernel) rfl (frLR_c rfl ⟨0, List.mem_singleton.mpr rfl, rfl⟩ (frLR_c rfl ⟨_, rfl⟩ frLR_n)) hT q
theorem lg_14b (hT : HT H) (q : Pn none m 257 0 [(0, .ref 78), (1, .int (y 1))] [] H r H') : frEd lM182 H r H' := lFr (M := lM182) (s := ([(0, .inl [78]), (1, .inr false)], [])) lIn182 rfl (by decide +kernel) rfl (frLR_c rfl ⟨78, List.mem_singleton.mpr rfl, rfl⟩ (frLR_c rfl ⟨_, rfl⟩ frLR_n)) hT q
theorem lf_14 (hT : HT H) (q : lq_14 y H H2) : HT H2 ∧ ∀ a b, frIn (lM72).2.2.1 a b = false → frIn (lM182).2.2.1 a b = false → sxEl H2 a b = sxEl H a b := by
  obtain ⟨m1, m2, r1, r2, H1, q1, q2, -⟩ := q
  have e1 := lg_14a hT q1
  have e2 := lg_14b e1.1 q2
  exact ⟨e2.1, fun a b z1 z2 => (e2.2.1 a b z2).trans (e1.2.1 a b z1)⟩
theorem ld_14 (q : lq_14 y H H2) (q' : lq_14 y H H3) : H3 = H2 := by
  obtain ⟨m1, m2, r1, r2, H1, q1, q2, -⟩ := q
  obtain ⟨m1', m2', r1', r2', H1', q1', q2', -⟩ := q'
  obtain ⟨-, e⟩ := Pn_det q1 q1'
  rw [e] at q2'
  exact (Pn_det q2 q2').2
theorem ln_14 (hT : HT H) (hL : lwL L i) (hy : lwY xs i y) (h : Pn (some xs) m 373 745 L [] H r H') : (∃ E, r = .inr E) ∨ ∃ (L2 : mjL) (H2 : mjH), lq_14 y H H2 ∧ HT H2 ∧ lwL L2 (i + Int32.ofInt 6) ∧ Pn (some xs) m 373 23 L2 [] H2 r H' := by
  obtain ⟨y0, ⟨-, ey0⟩, L1, hL1, r1, H1, q1, k1⟩ := la_14 hT hL h
  rw [hy.1 _ ey0] at q1
  have ed1 := lg_14a hT q1
  rcases k1 with ⟨v1, e1, h1⟩ | ⟨E, -, z, -⟩
  rotate_left
  · exact Or.inl ⟨E, z⟩
  obtain ⟨s0, hs0⟩ := lRi ed1 rfl e1
  rw [hs0] at h1
  obtain ⟨y0', ⟨-, ey0'⟩, L2, hL2, r2, H2, q2, k2⟩ := lb_14 ed1.1 hL1 h1
  rw [hy.1 _ ey0'] at q2
  have ed2 := lg_14b ed1.1 q2
  rcases k2 with ⟨v2, e2, h2⟩ | ⟨E, -, z, -⟩
  rotate_left
  · exact Or.inl ⟨E, z⟩
  obtain ⟨s1, hs1⟩ := lRi ed2 rfl e2
  rw [hs1] at h2
  obtain ⟨L3, hL3, h3⟩ := lc_14 ed2.1 hL2 h2
  exact Or.inr ⟨L3, H2, ⟨_, _, _, _, H1, q1, q2, ⟨_, e1⟩, _, e2⟩, ed2.1, hL3, h3⟩
/-- law -/
def lq_15 (y : Nat → Int32) (H H2 : mjH) : Prop := ∃ (m1 m2 : Nat) (r1 r2 : Option Value ⊕ Nat) (H1 : mjH), Pn none m1 339 0 [(0, .ref 0), (1, .int (y 1)), (2, .ref 578)] [] H r1 H1 ∧ Pn none m2 258 0 [(0, .ref 78), (1, .int (y 1))] [] H1 r2 H2 ∧ (∃ v1, r1 = .inl v1) ∧ ∃ v2, r2 = .inl v2
theorem lg_15a (hT : HT H) (q : Pn none m 339 0 [(0, .ref 0), (1, .int (y 1)), (2, .ref 578)] [] H r H') : frEd lM0 H r H' := lFr (M := lM0) (s := ([(0, .inl [0]), (1, .inr false), (2, .inl [578])], [])) lIn0 rfl (by decide +kernel) rfl (frLR_c rfl ⟨0, List.mem_singleton.mpr rfl, rfl⟩ (frLR_c rfl ⟨_, rfl⟩ (frLR_c rfl ⟨578, List.mem_singleton.mpr rfl, rfl⟩ frLR_n))) hT q
theorem lg_15b (hT : HT H) (q : Pn none m 258 0 [(0, .ref 78), (1, .int (y 1))] [] H r H') : frEd lM183 H r H' := lFr (M := lM183) (s := ([(0, .inl [78]), (1, .inr false)], [])) lIn183 rfl (by decide +kernel) rfl (frLR_c rfl ⟨78, List.mem_singleton.mpr rfl, rfl⟩ (frLR_c rfl ⟨_, rfl⟩ frLR_n)) hT q
theorem lf_15 (hT : HT H) (q : lq_15 y H H2) : HT H2 ∧ ∀ a b, frIn (lM0).2.2.1 a b = false → frIn (lM183).2.2.1 a b = false → sxEl H2 a b = sxEl H a b := by
  obtain ⟨m1, m2, r1, r2, H1, q1, q2, -⟩ := q
  have e1 := lg_15a hT q1
  have e2 := lg_15b e1.1 q2
  exact ⟨e2.1, fun a b z1 z2 => (e2.2.1 a b z2).trans (e1.2.1 a b z1)⟩
theorem ld_15 (q : lq_15 y H H2) (q' : lq_15 y H H3) : H3 = H2 := by
  obtain ⟨m1, m2, r1, r2, H1, q1, q2, -⟩ := q
  obtain ⟨m1', m2', r1', r2', H1', q1', q2', -⟩ := q'
  obtain ⟨-, e⟩ := Pn_det q1 q1'
  rw [e] at q2'
  exact (Pn_det q2 q2').2
theorem ln_15 (hT : HT H) (hL : lwL L i) (hy : lwY xs i y) (h : Pn (some xs) m 373 770 L [] H r H') : (∃ E, r = .inr E) ∨ ∃ (L2 : mjL) (H2 : mjH), lq_15 y H H2 ∧ HT H2 ∧ lwL L2 (i + Int32.ofInt 6) ∧ Pn (some xs) m 373 23 L2 [] H2 r H' := by
  obtain ⟨y0, ⟨-, ey0⟩, L1, hL1, r1, H1, q1, k1⟩ := la_15 hT hL h
  rw [hy.1 _ ey0] at q1
  have ed1 := lg_15a hT q1
  rcases k1 with ⟨v1, e1, h1⟩ | ⟨E, -, z, -⟩
  rotate_left
  · exact Or.inl ⟨E, z⟩
  obtain ⟨s0, hs0⟩ := lRi ed1 rfl e1
  rw [hs0] at h1
  obtain ⟨y0', ⟨-, ey0'⟩, L2, hL2, r2, H2, q2, k2⟩ := lb_15 ed1.1 hL1 h1
  rw [hy.1 _ ey0'] at q2
  have ed2 := lg_15b ed1.1 q2
  rcases k2 with ⟨v2, e2, h2⟩ | ⟨E, -, z, -⟩
  rotate_left
  · exact Or.inl ⟨E, z⟩
  obtain ⟨s1, hs1⟩ := lRi ed2 rfl e2
  rw [hs1] at h2
  obtain ⟨L3, hL3, h3⟩ := lc_15 ed2.1 hL2 h2
  exact Or.inr ⟨L3, H2, ⟨_, _, _, _, H1, q1, q2, ⟨_, e1⟩, _, e2⟩, ed2.1, hL3, h3⟩
/-- world -/
def lq_16 (y : Nat → Int32) (H H2 : mjH) : Prop := ∃ (m1 m2 : Nat) (r1 r2 : Option Value ⊕ Nat) (H1 : mjH), Pn none m1 340 0 [(0, .ref 0), (1, .int (y 1)), (2, .ref 578)] [] H r1 H1 ∧ Pn none m2 259 0 [(0, .ref 78), (1, .int (y 1))] [] H1 r2 H2 ∧ (∃ v1, r1 = .inl v1) ∧ ∃ v2, r2 = .inl v2
theorem lg_16a (hT : HT H) (q : Pn none m 340 0 [(0, .ref 0), (1, .int (y 1)), (2, .ref 578)] [] H r H') : frEd lM74 H r H' := lFr (M := lM74) (s := ([(0, .inl [0]), (1, .inr false), (2, .inl [578])], [])) lIn74 rfl (by decide +kernel) rfl (frLR_c rfl ⟨0, List.mem_singleton.mpr rfl, rfl⟩ (frLR_c rfl ⟨_, rfl⟩ (frLR_c rfl ⟨578, List.mem_singleton.mpr rfl, rfl⟩ frLR_n))) hT q
theorem lg_16b (hT : HT H) (q : Pn none m 259 0 [(0, .ref 78), (1, .int (y 1))] [] H r H') : frEd lM184 H r H' := lFr (M := lM184) (s := ([(0, .inl [78]), (1, .inr false)], [])) lIn184 rfl (by decide +kernel) rfl (frLR_c rfl ⟨78, List.mem_singleton.mpr rfl, rfl⟩ (frLR_c rfl ⟨_, rfl⟩ frLR_n)) hT q
theorem lf_16 (hT : HT H) (q : lq_16 y H H2) : HT H2 ∧ ∀ a b, frIn (lM74).2.2.1 a b = false → frIn (lM184).2.2.1 a b = false → sxEl H2 a b = sxEl H a b := by
  obtain ⟨m1, m2, r1, r2, H1, q1, q2, -⟩ := q
  have e1 := lg_16a hT q1
  have e2 := lg_16b e1.1 q2
  exact ⟨e2.1, fun a b z1 z2 => (e2.2.1 a b z2).trans (e1.2.1 a b z1)⟩
theorem ld_16 (q : lq_16 y H H2) (q' : lq_16 y H H3) : H3 = H2 := by
  obtain ⟨m1, m2, r1, r2, H1, q1, q2, -⟩ := q
  obtain ⟨m1', m2', r1', r2', H1', q1', q2', -⟩ := q'
  obtain ⟨-, e⟩ := Pn_det q1 q1'
  rw [e] at q2'
  exact (Pn_det q2 q2').2
theorem ln_16 (hT : HT H) (hL : lwL L i) (hy : lwY xs i y) (h : Pn (some xs) m 373 798 L [] H r H') : (∃ E, r = .inr E) ∨ ∃ (L2 : mjL) (H2 : mjH), lq_16 y H H2 ∧ HT H2 ∧ lwL L2 (i + Int32.ofInt 6) ∧ Pn (some xs) m 373 23 L2 [] H2 r H' := by
  obtain ⟨y0, ⟨-, ey0⟩, L1, hL1, r1, H1, q1, k1⟩ := la_16 hT hL h
  rw [hy.1 _ ey0] at q1
  have ed1 := lg_16a hT q1
  rcases k1 with ⟨v1, e1, h1⟩ | ⟨E, -, z, -⟩
  rotate_left
  · exact Or.inl ⟨E, z⟩
  obtain ⟨s0, hs0⟩ := lRi ed1 rfl e1
  rw [hs0] at h1
  obtain ⟨y0', ⟨-, ey0'⟩, L2, hL2, r2, H2, q2, k2⟩ := lb_16 ed1.1 hL1 h1
  rw [hy.1 _ ey0'] at q2
  have ed2 := lg_16b ed1.1 q2
  rcases k2 with ⟨v2, e2, h2⟩ | ⟨E, -, z, -⟩
  rotate_left
  · exact Or.inl ⟨E, z⟩
  obtain ⟨s1, hs1⟩ := lRi ed2 rfl e2
  rw [hs1] at h2
  obtain ⟨L3, hL3, h3⟩ := lc_16 ed2.1 hL2 h2
  exact Or.inr ⟨L3, H2, ⟨_, _, _, _, H1, q1, q2, ⟨_, e1⟩, _, e2⟩, ed2.1, hL3, h3⟩
/-- held -/
def lq_17 (y : Nat → Int32) (H H2 : mjH) : Prop := ∃ (m1 m2 : Nat) (r1 r2 : Option Value ⊕ Nat) (H1 : mjH), Pn none m1 341 0 [(0, .ref 0), (1, .int (y 1)), (2, .ref 578)] [] H r1 H1 ∧ Pn none m2 272 0 [(0, .ref 78), (1, .int (y 1))] [] H1 r2 H2 ∧ (∃ v1, r1 = .inl v1) ∧ ∃ v2, r2 = .inl v2
theorem lg_17a (hT : HT H) (q : Pn none m 341 0 [(0, .ref 0), (1, .int (y 1)), (2, .ref 578)] [] H r H') : frEd lM75 H r H' := lFr (M := lM75) (s := ([(0, .inl [0]), (1, .inr false), (2, .inl [578])], [])) lIn75 rfl (by decide +kernel) rfl (frLR_c rfl ⟨0, List.mem_singleton.mpr rfl, rfl⟩ (frLR_c rfl ⟨_, rfl⟩ (frLR_c rfl ⟨578, List.mem_singleton.mpr rfl, rfl⟩ frLR_n))) hT q
theorem lg_17b (hT : HT H) (q : Pn none m 272 0 [(0, .ref 78), (1, .int (y 1))] [] H r H') : frEd lM185 H r H' := lFr (M := lM185) (s := ([(0, .inl [78]), (1, .inr false)], [])) lIn185 rfl (by decide +kernel) rfl (frLR_c rfl ⟨78, List.mem_singleton.mpr rfl, rfl⟩ (frLR_c rfl ⟨_, rfl⟩ frLR_n)) hT q
theorem lf_17 (hT : HT H) (q : lq_17 y H H2) : HT H2 ∧ ∀ a b, frIn (lM75).2.2.1 a b = false → frIn (lM185).2.2.1 a b = false → sxEl H2 a b = sxEl H a b := by
  obtain ⟨m1, m2, r1, r2, H1, q1, q2, -⟩ := q
  have e1 := lg_17a hT q1
  have e2 := lg_17b e1.1 q2
  exact ⟨e2.1, fun a b z1 z2 => (e2.2.1 a b z2).trans (e1.2.1 a b z1)⟩
theorem ld_17 (q : lq_17 y H H2) (q' : lq_17 y H H3) : H3 = H2 := by
  obtain ⟨m1, m2, r1, r2, H1, q1, q2, -⟩ := q
  obtain ⟨m1', m2', r1', r2', H1', q1', q2', -⟩ := q'
  obtain ⟨-, e⟩ := Pn_det q1 q1'
  rw [e] at q2'
  exact (Pn_det q2 q2').2
theorem ln_17 (hT : HT H) (hL : lwL L i) (hy : lwY xs i y) (h : Pn (some xs) m 373 826 L [] H r H') : (∃ E, r = .inr E) ∨ ∃ (L2 : mjL) (H2 : mjH), lq_17 y H H2 ∧ HT H2 ∧ lwL L2 (i + Int32.ofInt 6) ∧ Pn (some xs) m 373 23 L2 [] H2 r H' := by
  obtain ⟨y0, ⟨-, ey0⟩, L1, hL1, r1, H1, q1, k1⟩ := la_17 hT hL h
  rw [hy.1 _ ey0] at q1
  have ed1 := lg_17a hT q1
  rcases k1 with ⟨v1, e1, h1⟩ | ⟨E, -, z, -⟩
  rotate_left
  · exact Or.inl ⟨E, z⟩
  obtain ⟨s0, hs0⟩ := lRi ed1 rfl e1
  rw [hs0] at h1
  obtain ⟨y0', ⟨-, ey0'⟩, L2, hL2, r2, H2, q2, k2⟩ := lb_17 ed1.1 hL1 h1
  rw [hy.1 _ ey0'] at q2
  have ed2 := lg_17b ed1.1 q2
  rcases k2 with ⟨v2, e2, h2⟩ | ⟨E, -, z, -⟩
  rotate_left
  · exact Or.inl ⟨E, z⟩
  obtain ⟨s1, hs1⟩ := lRi ed2 rfl e2
  rw [hs1] at h2
  obtain ⟨L3, hL3, h3⟩ := lc_17 ed2.1 hL2 h2
  exact Or.inr ⟨L3, H2, ⟨_, _, _, _, H1, q1, q2, ⟨_, e1⟩, _, e2⟩, ed2.1, hL3, h3⟩
/-- fate -/
def lq_18 (y : Nat → Int32) (H H2 : mjH) : Prop := ∃ (m1 m2 : Nat) (r1 r2 : Option Value ⊕ Nat) (H1 : mjH), Pn none m1 342 0 [(0, .ref 0), (1, .int (y 1)), (2, .int (y 2)), (3, .ref 578)] [] H r1 H1 ∧ Pn none m2 274 0 [(0, .ref 78), (1, .int (y 1)), (2, .int (y 2))] [] H1 r2 H2 ∧ (∃ v1, r1 = .inl v1) ∧ ∃ v2, r2 = .inl v2
theorem lg_18a (hT : HT H) (q : Pn none m 342 0 [(0, .ref 0), (1, .int (y 1)), (2, .int (y 2)), (3, .ref 578)] [] H r H') : frEd lM76 H r H' := lFr (M := lM76) (s := ([(0, .inl [0]), (1, .inr false), (2, .inr false), (3, .inl [578])], [])) lIn76 rfl (by decide +kernel) rfl (frLR_c rfl ⟨0, List.mem_singleton.mpr rfl, rfl⟩ (frLR_c rfl ⟨_, rfl⟩ (frLR_c rfl ⟨_, rfl⟩ (frLR_c rfl ⟨578, List.mem_singleton.mpr rfl, rfl⟩ frLR_n)))) hT q
theorem lg_18b (hT : HT H) (q : Pn none m 274 0 [(0, .ref 78), (1, .int (y 1)), (2, .int (y 2))] [] H r H') : frEd lM186 H r H' := lFr (M := lM186) (s := ([(0, .inl [78]), (1, .inr false), (2, .inr false)], [])) lIn186 rfl (by decide +kernel) rfl (frLR_c rfl ⟨78, List.mem_singleton.mpr rfl, rfl⟩ (frLR_c rfl ⟨_, rfl⟩ (frLR_c rfl ⟨_, rfl⟩ frLR_n))) hT q
theorem lf_18 (hT : HT H) (q : lq_18 y H H2) : HT H2 ∧ ∀ a b, frIn (lM76).2.2.1 a b = false → frIn (lM186).2.2.1 a b = false → sxEl H2 a b = sxEl H a b := by
  obtain ⟨m1, m2, r1, r2, H1, q1, q2, -⟩ := q
  have e1 := lg_18a hT q1
  have e2 := lg_18b e1.1 q2
  exact ⟨e2.1, fun a b z1 z2 => (e2.2.1 a b z2).trans (e1.2.1 a b z1)⟩
theorem ld_18 (q : lq_18 y H H2) (q' : lq_18 y H H3) : H3 = H2 := by
  obtain ⟨m1, m2, r1, r2, H1, q1, q2, -⟩ := q
  obtain ⟨m1', m2', r1', r2', H1', q1', q2', -⟩ := q'
  obtain ⟨-, e⟩ := Pn_det q1 q1'
  rw [e] at q2'
  exact (Pn_det q2 q2').2
theorem ln_18 (hT : HT H) (hL : lwL L i) (hy : lwY xs i y) (h : Pn (some xs) m 373 854 L [] H r H') : (∃ E, r = .inr E) ∨ ∃ (L2 : mjL) (H2 : mjH), lq_18 y H H2 ∧ HT H2 ∧ lwL L2 (i + Int32.ofInt 6) ∧ Pn (some xs) m 373 23 L2 [] H2 r H' := by
  obtain ⟨y0, ⟨-, ey0⟩, y1, ⟨-, ey1⟩, L1, hL1, r1, H1, q1, k1⟩ := la_18 hT hL h
  rw [hy.1 _ ey0] at q1
  rw [hy.2.1 _ ey1] at q1
  have ed1 := lg_18a hT q1
  rcases k1 with ⟨v1, e1, h1⟩ | ⟨E, -, z, -⟩
  rotate_left
  · exact Or.inl ⟨E, z⟩
  obtain ⟨s0, hs0⟩ := lRi ed1 rfl e1
  rw [hs0] at h1
  obtain ⟨y0', ⟨-, ey0'⟩, y1', ⟨-, ey1'⟩, L2, hL2, r2, H2, q2, k2⟩ := lb_18 ed1.1 hL1 h1
  rw [hy.1 _ ey0'] at q2
  rw [hy.2.1 _ ey1'] at q2
  have ed2 := lg_18b ed1.1 q2
  rcases k2 with ⟨v2, e2, h2⟩ | ⟨E, -, z, -⟩
  rotate_left
  · exact Or.inl ⟨E, z⟩
  obtain ⟨s1, hs1⟩ := lRi ed2 rfl e2
  rw [hs1] at h2
  obtain ⟨L3, hL3, h3⟩ := lc_18 ed2.1 hL2 h2
  exact Or.inr ⟨L3, H2, ⟨_, _, _, _, H1, q1, q2, ⟨_, e1⟩, _, e2⟩, ed2.1, hL3, h3⟩
/-- year -/
def lq_19 (y : Nat → Int32) (H H2 : mjH) : Prop := ∃ (m1 m2 : Nat) (r1 r2 : Option Value ⊕ Nat) (H1 : mjH), Pn none m1 343 0 [(0, .ref 0), (1, .int (y 1)), (2, .ref 578)] [] H r1 H1 ∧ Pn none m2 276 0 [(0, .ref 78), (1, .int (y 1))] [] H1 r2 H2 ∧ (∃ v1, r1 = .inl v1) ∧ ∃ v2, r2 = .inl v2
theorem lg_19a (hT : HT H) (q : Pn none m 343 0 [(0, .ref 0), (1, .int (y 1)), (2, .ref 578)] [] H r H') : frEd lM77 H r H' := lFr (M := lM77) (s := ([(0, .inl [0]), (1, .inr false), (2, .inl [578])], [])) lIn77 rfl (by decide +kernel) rfl (frLR_c rfl ⟨0, List.mem_singleton.mpr rfl, rfl⟩ (frLR_c rfl ⟨_, rfl⟩ (frLR_c rfl ⟨578, List.mem_singleton.mpr rfl, rfl⟩ frLR_n))) hT q
theorem lg_19b (hT : HT H) (q : Pn none m 276 0 [(0, .ref 78), (1, .int (y 1))] [] H r H') : frEd lM187 H r H' := lFr (M := lM187) (s := ([(0, .inl [78]), (1, .inr false)], [])) lIn187 rfl (by decide +kernel) rfl (frLR_c rfl ⟨78, List.mem_singleton.mpr rfl, rfl⟩ (frLR_c rfl ⟨_, rfl⟩ frLR_n)) hT q
theorem lf_19 (hT : HT H) (q : lq_19 y H H2) : HT H2 ∧ ∀ a b, frIn (lM77).2.2.1 a b = false → frIn (lM187).2.2.1 a b = false → sxEl H2 a b = sxEl H a b := by
  obtain ⟨m1, m2, r1, r2, H1, q1, q2, -⟩ := q
  have e1 := lg_19a hT q1
  have e2 := lg_19b e1.1 q2
  exact ⟨e2.1, fun a b z1 z2 => (e2.2.1 a b z2).trans (e1.2.1 a b z1)⟩
theorem ld_19 (q : lq_19 y H H2) (q' : lq_19 y H H3) : H3 = H2 := by
  obtain ⟨m1, m2, r1, r2, H1, q1, q2, -⟩ := q
  obtain ⟨m1', m2', r1', r2', H1', q1', q2', -⟩ := q'
  obtain ⟨-, e⟩ := Pn_det q1 q1'
  rw [e] at q2'
  exact (Pn_det q2 q2').2
theorem ln_19 (hT : HT H) (hL : lwL L i) (hy : lwY xs i y) (h : Pn (some xs) m 373 894 L [] H r H') : (∃ E, r = .inr E) ∨ ∃ (L2 : mjL) (H2 : mjH), lq_19 y H H2 ∧ HT H2 ∧ lwL L2 (i + Int32.ofInt 6) ∧ Pn (some xs) m 373 23 L2 [] H2 r H' := by
  obtain ⟨y0, ⟨-, ey0⟩, L1, hL1, r1, H1, q1, k1⟩ := la_19 hT hL h
  rw [hy.1 _ ey0] at q1
  have ed1 := lg_19a hT q1
  rcases k1 with ⟨v1, e1, h1⟩ | ⟨E, -, z, -⟩
  rotate_left
  · exact Or.inl ⟨E, z⟩
  obtain ⟨s0, hs0⟩ := lRi ed1 rfl e1
  rw [hs0] at h1
  obtain ⟨y0', ⟨-, ey0'⟩, L2, hL2, r2, H2, q2, k2⟩ := lb_19 ed1.1 hL1 h1
  rw [hy.1 _ ey0'] at q2
  have ed2 := lg_19b ed1.1 q2
  rcases k2 with ⟨v2, e2, h2⟩ | ⟨E, -, z, -⟩
  rotate_left
  · exact Or.inl ⟨E, z⟩
  obtain ⟨s1, hs1⟩ := lRi ed2 rfl e2
  rw [hs1] at h2
  obtain ⟨L3, hL3, h3⟩ := lc_19 ed2.1 hL2 h2
  exact Or.inr ⟨L3, H2, ⟨_, _, _, _, H1, q1, q2, ⟨_, e1⟩, _, e2⟩, ed2.1, hL3, h3⟩
/-- touchy -/
def lq_20 (y : Nat → Int32) (H H2 : mjH) : Prop := ∃ (m1 m2 : Nat) (r1 r2 : Option Value ⊕ Nat) (H1 : mjH), Pn none m1 133 0 [(0, .ref 0)] [] H r1 H1 ∧ Pn none m2 278 0 [(0, .ref 78)] [] H1 r2 H2 ∧ (∃ v1, r1 = .inl v1) ∧ ∃ v2, r2 = .inl v2
theorem lg_20a (hT : HT H) (q : Pn none m 133 0 [(0, .ref 0)] [] H r H') : frEd lM78 H r H' := lFr (M := lM78) (s := ([(0, .inl [0])], [])) lIn78 rfl (by decide +kernel) rfl (frLR_c rfl ⟨0, List.mem_singleton.mpr rfl, rfl⟩ frLR_n) hT q
theorem lg_20b (hT : HT H) (q : Pn none m 278 0 [(0, .ref 78)] [] H r H') : frEd lM188 H r H' := lFr (M := lM188) (s := ([(0, .inl [78])], [])) lIn188 rfl (by decide +kernel) rfl (frLR_c rfl ⟨78, List.mem_singleton.mpr rfl, rfl⟩ frLR_n) hT q
theorem lf_20 (hT : HT H) (q : lq_20 y H H2) : HT H2 ∧ ∀ a b, frIn (lM78).2.2.1 a b = false → frIn (lM188).2.2.1 a b = false → sxEl H2 a b = sxEl H a b := by
  obtain ⟨m1, m2, r1, r2, H1, q1, q2, -⟩ := q
  have e1 := lg_20a hT q1
  have e2 := lg_20b e1.1 q2
  exact ⟨e2.1, fun a b z1 z2 => (e2.2.1 a b z2).trans (e1.2.1 a b z1)⟩
theorem ld_20 (q : lq_20 y H H2) (q' : lq_20 y H H3) : H3 = H2 := by
  obtain ⟨m1, m2, r1, r2, H1, q1, q2, -⟩ := q
  obtain ⟨m1', m2', r1', r2', H1', q1', q2', -⟩ := q'
  obtain ⟨-, e⟩ := Pn_det q1 q1'
  rw [e] at q2'
  exact (Pn_det q2 q2').2
theorem ln_20 (hT : HT H) (hL : lwL L i) (hy : lwY xs i y) (h : Pn (some xs) m 373 922 L [] H r H') : (∃ E, r = .inr E) ∨ ∃ (L2 : mjL) (H2 : mjH), lq_20 y H H2 ∧ HT H2 ∧ lwL L2 (i + Int32.ofInt 6) ∧ Pn (some xs) m 373 23 L2 [] H2 r H' := by
  obtain ⟨L1, hL1, r1, H1, q1, k1⟩ := la_20 hT hL h
  have ed1 := lg_20a hT q1
  rcases k1 with ⟨v1, e1, h1⟩ | ⟨E, -, z, -⟩
  rotate_left
  · exact Or.inl ⟨E, z⟩
  obtain ⟨s0, hs0⟩ := lRi ed1 rfl e1
  rw [hs0] at h1
  obtain ⟨L2, hL2, r2, H2, q2, k2⟩ := lb_20 ed1.1 hL1 h1
  have ed2 := lg_20b ed1.1 q2
  rcases k2 with ⟨v2, e2, h2⟩ | ⟨E, -, z, -⟩
  rotate_left
  · exact Or.inl ⟨E, z⟩
  obtain ⟨s1, hs1⟩ := lRi ed2 rfl e2
  rw [hs1] at h2
  obtain ⟨L3, hL3, h3⟩ := lc_20 ed2.1 hL2 h2
  exact Or.inr ⟨L3, H2, ⟨_, _, _, _, H1, q1, q2, ⟨_, e1⟩, _, e2⟩, ed2.1, hL3, h3⟩
/-- ends -/
def lq_21 (y : Nat → Int32) (H H2 : mjH) : Prop := ∃ (m1 m2 : Nat) (r1 r2 : Option Value ⊕ Nat) (H1 : mjH), Pn none m1 344 0 [(0, .ref 0), (1, .int (y 1)), (2, .ref 578)] [] H r1 H1 ∧ Pn none m2 286 0 [(0, .ref 78), (1, .int (y 1))] [] H1 r2 H2 ∧ (∃ v1, r1 = .inl v1) ∧ ∃ v2, r2 = .inl v2
theorem lg_21a (hT : HT H) (q : Pn none m 344 0 [(0, .ref 0), (1, .int (y 1)), (2, .ref 578)] [] H r H') : frEd lM79 H r H' := lFr (M := lM79) (s := ([(0, .inl [0]), (1, .inr false), (2, .inl [578])], [])) lIn79 rfl (by decide +kernel) rfl (frLR_c rfl ⟨0, List.mem_singleton.mpr rfl, rfl⟩ (frLR_c rfl ⟨_, rfl⟩ (frLR_c rfl ⟨578, List.mem_singleton.mpr rfl, rfl⟩ frLR_n))) hT q
theorem lg_21b (hT : HT H) (q : Pn none m 286 0 [(0, .ref 78), (1, .int (y 1))] [] H r H') : frEd lM189 H r H' := lFr (M := lM189) (s := ([(0, .inl [78]), (1, .inr false)], [])) lIn189 rfl (by decide +kernel) rfl (frLR_c rfl ⟨78, List.mem_singleton.mpr rfl, rfl⟩ (frLR_c rfl ⟨_, rfl⟩ frLR_n)) hT q
theorem lf_21 (hT : HT H) (q : lq_21 y H H2) : HT H2 ∧ ∀ a b, frIn (lM79).2.2.1 a b = false → frIn (lM189).2.2.1 a b = false → sxEl H2 a b = sxEl H a b := by
  obtain ⟨m1, m2, r1, r2, H1, q1, q2, -⟩ := q
  have e1 := lg_21a hT q1
  have e2 := lg_21b e1.1 q2
  exact ⟨e2.1, fun a b z1 z2 => (e2.2.1 a b z2).trans (e1.2.1 a b z1)⟩
theorem ld_21 (q : lq_21 y H H2) (q' : lq_21 y H H3) : H3 = H2 := by
  obtain ⟨m1, m2, r1, r2, H1, q1, q2, -⟩ := q
  obtain ⟨m1', m2', r1', r2', H1', q1', q2', -⟩ := q'
  obtain ⟨-, e⟩ := Pn_det q1 q1'
  rw [e] at q2'
  exact (Pn_det q2 q2').2
theorem ln_21 (hT : HT H) (hL : lwL L i) (hy : lwY xs i y) (h : Pn (some xs) m 373 935 L [] H r H') : (∃ E, r = .inr E) ∨ ∃ (L2 : mjL) (H2 : mjH), lq_21 y H H2 ∧ HT H2 ∧ lwL L2 (i + Int32.ofInt 6) ∧ Pn (some xs) m 373 23 L2 [] H2 r H' := by
  obtain ⟨y0, ⟨-, ey0⟩, L1, hL1, r1, H1, q1, k1⟩ := la_21 hT hL h
  rw [hy.1 _ ey0] at q1
  have ed1 := lg_21a hT q1
  rcases k1 with ⟨v1, e1, h1⟩ | ⟨E, -, z, -⟩
  rotate_left
  · exact Or.inl ⟨E, z⟩
  obtain ⟨s0, hs0⟩ := lRi ed1 rfl e1
  rw [hs0] at h1
  obtain ⟨y0', ⟨-, ey0'⟩, L2, hL2, r2, H2, q2, k2⟩ := lb_21 ed1.1 hL1 h1
  rw [hy.1 _ ey0'] at q2
  have ed2 := lg_21b ed1.1 q2
  rcases k2 with ⟨v2, e2, h2⟩ | ⟨E, -, z, -⟩
  rotate_left
  · exact Or.inl ⟨E, z⟩
  obtain ⟨s1, hs1⟩ := lRi ed2 rfl e2
  rw [hs1] at h2
  obtain ⟨L3, hL3, h3⟩ := lc_21 ed2.1 hL2 h2
  exact Or.inr ⟨L3, H2, ⟨_, _, _, _, H1, q1, q2, ⟨_, e1⟩, _, e2⟩, ed2.1, hL3, h3⟩
/-- orders -/
def lq_22 (y : Nat → Int32) (H H2 : mjH) : Prop := ∃ (m1 m2 : Nat) (r1 r2 : Option Value ⊕ Nat) (H1 : mjH), Pn none m1 345 0 [(0, .ref 0), (1, .int (y 1)), (2, .ref 578)] [] H r1 H1 ∧ Pn none m2 287 0 [(0, .ref 78), (1, .int (y 1))] [] H1 r2 H2 ∧ (∃ v1, r1 = .inl v1) ∧ ∃ v2, r2 = .inl v2
theorem lg_22a (hT : HT H) (q : Pn none m 345 0 [(0, .ref 0), (1, .int (y 1)), (2, .ref 578)] [] H r H') : frEd lM80 H r H' := lFr (M := lM80) (s := ([(0, .inl [0]), (1, .inr false), (2, .inl [578])], [])) lIn80 rfl (by decide +kernel) rfl (frLR_c rfl ⟨0, List.mem_singleton.mpr rfl, rfl⟩ (frLR_c rfl ⟨_, rfl⟩ (frLR_c rfl ⟨578, List.mem_singleton.mpr rfl, rfl⟩ frLR_n))) hT q
theorem lg_22b (hT : HT H) (q : Pn none m 287 0 [(0, .ref 78), (1, .int (y 1))] [] H r H') : frEd lM190 H r H' := lFr (M := lM190) (s := ([(0, .inl [78]), (1, .inr false)], [])) lIn190 rfl (by decide +kernel) rfl (frLR_c rfl ⟨78, List.mem_singleton.mpr rfl, rfl⟩ (frLR_c rfl ⟨_, rfl⟩ frLR_n)) hT q
theorem lf_22 (hT : HT H) (q : lq_22 y H H2) : HT H2 ∧ ∀ a b, frIn (lM80).2.2.1 a b = false → frIn (lM190).2.2.1 a b = false → sxEl H2 a b = sxEl H a b := by
  obtain ⟨m1, m2, r1, r2, H1, q1, q2, -⟩ := q
  have e1 := lg_22a hT q1
  have e2 := lg_22b e1.1 q2
  exact ⟨e2.1, fun a b z1 z2 => (e2.2.1 a b z2).trans (e1.2.1 a b z1)⟩
theorem ld_22 (q : lq_22 y H H2) (q' : lq_22 y H H3) : H3 = H2 := by
  obtain ⟨m1, m2, r1, r2, H1, q1, q2, -⟩ := q
  obtain ⟨m1', m2', r1', r2', H1', q1', q2', -⟩ := q'
  obtain ⟨-, e⟩ := Pn_det q1 q1'
  rw [e] at q2'
  exact (Pn_det q2 q2').2
theorem ln_22 (hT : HT H) (hL : lwL L i) (hy : lwY xs i y) (h : Pn (some xs) m 373 963 L [] H r H') : (∃ E, r = .inr E) ∨ ∃ (L2 : mjL) (H2 : mjH), lq_22 y H H2 ∧ HT H2 ∧ lwL L2 (i + Int32.ofInt 6) ∧ Pn (some xs) m 373 23 L2 [] H2 r H' := by
  obtain ⟨y0, ⟨-, ey0⟩, L1, hL1, r1, H1, q1, k1⟩ := la_22 hT hL h
  rw [hy.1 _ ey0] at q1
  have ed1 := lg_22a hT q1
  rcases k1 with ⟨v1, e1, h1⟩ | ⟨E, -, z, -⟩
  rotate_left
  · exact Or.inl ⟨E, z⟩
  obtain ⟨s0, hs0⟩ := lRi ed1 rfl e1
  rw [hs0] at h1
  obtain ⟨y0', ⟨-, ey0'⟩, L2, hL2, r2, H2, q2, k2⟩ := lb_22 ed1.1 hL1 h1
  rw [hy.1 _ ey0'] at q2
  have ed2 := lg_22b ed1.1 q2
  rcases k2 with ⟨v2, e2, h2⟩ | ⟨E, -, z, -⟩
  rotate_left
  · exact Or.inl ⟨E, z⟩
  obtain ⟨s1, hs1⟩ := lRi ed2 rfl e2
  rw [hs1] at h2
  obtain ⟨L3, hL3, h3⟩ := lc_22 ed2.1 hL2 h2
  exact Or.inr ⟨L3, H2, ⟨_, _, _, _, H1, q1, q2, ⟨_, e1⟩, _, e2⟩, ed2.1, hL3, h3⟩
/-- best -/
def lq_23 (y : Nat → Int32) (H H2 : mjH) : Prop := ∃ (m1 m2 : Nat) (r1 r2 : Option Value ⊕ Nat) (H1 : mjH), Pn none m1 346 0 [(0, .ref 0), (1, .ref 578)] [] H r1 H1 ∧ Pn none m2 288 0 [(0, .ref 78)] [] H1 r2 H2 ∧ (∃ v1, r1 = .inl v1) ∧ ∃ v2, r2 = .inl v2
theorem lg_23a (hT : HT H) (q : Pn none m 346 0 [(0, .ref 0), (1, .ref 578)] [] H r H') : frEd lM81 H r H' := lFr (M := lM81) (s := ([(0, .inl [0]), (1, .inl [578])], [])) lIn81 rfl (by decide +kernel) rfl (frLR_c rfl ⟨0, List.mem_singleton.mpr rfl, rfl⟩ (frLR_c rfl ⟨578, List.mem_singleton.mpr rfl, rfl⟩ frLR_n)) hT q
theorem lg_23b (hT : HT H) (q : Pn none m 288 0 [(0, .ref 78)] [] H r H') : frEd lM191 H r H' := lFr (M := lM191) (s := ([(0, .inl [78])], [])) lIn191 rfl (by decide +kernel) rfl (frLR_c rfl ⟨78, List.mem_singleton.mpr rfl, rfl⟩ frLR_n) hT q
theorem lf_23 (hT : HT H) (q : lq_23 y H H2) : HT H2 ∧ ∀ a b, frIn (lM81).2.2.1 a b = false → frIn (lM191).2.2.1 a b = false → sxEl H2 a b = sxEl H a b := by
  obtain ⟨m1, m2, r1, r2, H1, q1, q2, -⟩ := q
  have e1 := lg_23a hT q1
  have e2 := lg_23b e1.1 q2
  exact ⟨e2.1, fun a b z1 z2 => (e2.2.1 a b z2).trans (e1.2.1 a b z1)⟩
theorem ld_23 (q : lq_23 y H H2) (q' : lq_23 y H H3) : H3 = H2 := by
  obtain ⟨m1, m2, r1, r2, H1, q1, q2, -⟩ := q
  obtain ⟨m1', m2', r1', r2', H1', q1', q2', -⟩ := q'
  obtain ⟨-, e⟩ := Pn_det q1 q1'
  rw [e] at q2'
  exact (Pn_det q2 q2').2
theorem ln_23 (hT : HT H) (hL : lwL L i) (hy : lwY xs i y) (h : Pn (some xs) m 373 991 L [] H r H') : (∃ E, r = .inr E) ∨ ∃ (L2 : mjL) (H2 : mjH), lq_23 y H H2 ∧ HT H2 ∧ lwL L2 (i + Int32.ofInt 6) ∧ Pn (some xs) m 373 23 L2 [] H2 r H' := by
  obtain ⟨L1, hL1, r1, H1, q1, k1⟩ := la_23 hT hL h
  have ed1 := lg_23a hT q1
  rcases k1 with ⟨v1, e1, h1⟩ | ⟨E, -, z, -⟩
  rotate_left
  · exact Or.inl ⟨E, z⟩
  obtain ⟨s0, hs0⟩ := lRi ed1 rfl e1
  rw [hs0] at h1
  obtain ⟨L2, hL2, r2, H2, q2, k2⟩ := lb_23 ed1.1 hL1 h1
  have ed2 := lg_23b ed1.1 q2
  rcases k2 with ⟨v2, e2, h2⟩ | ⟨E, -, z, -⟩
  rotate_left
  · exact Or.inl ⟨E, z⟩
  obtain ⟨s1, hs1⟩ := lRi ed2 rfl e2
  rw [hs1] at h2
  obtain ⟨L3, hL3, h3⟩ := lc_23 ed2.1 hL2 h2
  exact Or.inr ⟨L3, H2, ⟨_, _, _, _, H1, q1, q2, ⟨_, e1⟩, _, e2⟩, ed2.1, hL3, h3⟩
/-- fits -/
def lq_24 (y : Nat → Int32) (H H2 : mjH) : Prop := ∃ (m1 m2 : Nat) (r1 r2 : Option Value ⊕ Nat) (H1 : mjH), Pn none m1 347 0 [(0, .ref 0), (1, .int (y 1)), (2, .int (y 2)), (3, .ref 578)] [] H r1 H1 ∧ Pn none m2 296 0 [(0, .ref 78), (1, .int (y 1)), (2, .int (y 2))] [] H1 r2 H2 ∧ (∃ v1, r1 = .inl v1) ∧ ∃ v2, r2 = .inl v2
theorem lg_24a (hT : HT H) (q : Pn none m 347 0 [(0, .ref 0), (1, .int (y 1)), (2, .int (y 2)), (3, .ref 578)] [] H r H') : frEd lM82 H r H' := lFr (M := lM82) (s := ([(0, .inl [0]), (1, .inr false), (2, .inr false), (3, .inl [578])], [])) lIn82 rfl (by decide +kernel) rfl (frLR_c rfl ⟨0, List.mem_singleton.mpr rfl, rfl⟩ (frLR_c rfl ⟨_, rfl⟩ (frLR_c rfl ⟨_, rfl⟩ (frLR_c rfl ⟨578, List.mem_singleton.mpr rfl, rfl⟩ frLR_n)))) hT q
theorem lg_24b (hT : HT H) (q : Pn none m 296 0 [(0, .ref 78), (1, .int (y 1)), (2, .int (y 2))] [] H r H') : frEd lM192 H r H' := lFr (M := lM192) (s := ([(0, .inl [78]), (1, .inr false), (2, .inr false)], [])) lIn192 rfl (by decide +kernel) rfl (frLR_c rfl ⟨78, List.mem_singleton.mpr rfl, rfl⟩ (frLR_c rfl ⟨_, rfl⟩ (frLR_c rfl ⟨_, rfl⟩ frLR_n))) hT q
theorem lf_24 (hT : HT H) (q : lq_24 y H H2) : HT H2 ∧ ∀ a b, frIn (lM82).2.2.1 a b = false → frIn (lM192).2.2.1 a b = false → sxEl H2 a b = sxEl H a b := by
  obtain ⟨m1, m2, r1, r2, H1, q1, q2, -⟩ := q
  have e1 := lg_24a hT q1
  have e2 := lg_24b e1.1 q2
  exact ⟨e2.1, fun a b z1 z2 => (e2.2.1 a b z2).trans (e1.2.1 a b z1)⟩
theorem ld_24 (q : lq_24 y H H2) (q' : lq_24 y H H3) : H3 = H2 := by
  obtain ⟨m1, m2, r1, r2, H1, q1, q2, -⟩ := q
  obtain ⟨m1', m2', r1', r2', H1', q1', q2', -⟩ := q'
  obtain ⟨-, e⟩ := Pn_det q1 q1'
  rw [e] at q2'
  exact (Pn_det q2 q2').2
theorem ln_24 (hT : HT H) (hL : lwL L i) (hy : lwY xs i y) (h : Pn (some xs) m 373 1007 L [] H r H') : (∃ E, r = .inr E) ∨ ∃ (L2 : mjL) (H2 : mjH), lq_24 y H H2 ∧ HT H2 ∧ lwL L2 (i + Int32.ofInt 6) ∧ Pn (some xs) m 373 23 L2 [] H2 r H' := by
  obtain ⟨y0, ⟨-, ey0⟩, y1, ⟨-, ey1⟩, L1, hL1, r1, H1, q1, k1⟩ := la_24 hT hL h
  rw [hy.1 _ ey0] at q1
  rw [hy.2.1 _ ey1] at q1
  have ed1 := lg_24a hT q1
  rcases k1 with ⟨v1, e1, h1⟩ | ⟨E, -, z, -⟩
  rotate_left
  · exact Or.inl ⟨E, z⟩
  obtain ⟨s0, hs0⟩ := lRi ed1 rfl e1
  rw [hs0] at h1
  obtain ⟨y0', ⟨-, ey0'⟩, y1', ⟨-, ey1'⟩, L2, hL2, r2, H2, q2, k2⟩ := lb_24 ed1.1 hL1 h1
  rw [hy.1 _ ey0'] at q2
  rw [hy.2.1 _ ey1'] at q2
  have ed2 := lg_24b ed1.1 q2
  rcases k2 with ⟨v2, e2, h2⟩ | ⟨E, -, z, -⟩
  rotate_left
  · exact Or.inl ⟨E, z⟩
  obtain ⟨s1, hs1⟩ := lRi ed2 rfl e2
  rw [hs1] at h2
  obtain ⟨L3, hL3, h3⟩ := lc_24 ed2.1 hL2 h2
  exact Or.inr ⟨L3, H2, ⟨_, _, _, _, H1, q1, q2, ⟨_, e1⟩, _, e2⟩, ed2.1, hL3, h3⟩
/-- sets -/
def lq_25 (y : Nat → Int32) (H H2 : mjH) : Prop := ∃ (m1 m2 : Nat) (r1 r2 : Option Value ⊕ Nat) (H1 : mjH), Pn none m1 348 0 [(0, .ref 0), (1, .int (y 1)), (2, .int (y 2)), (3, .ref 578)] [] H r1 H1 ∧ Pn none m2 301 0 [(0, .ref 78), (1, .int (y 1)), (2, .int (y 2))] [] H1 r2 H2 ∧ (∃ v1, r1 = .inl v1) ∧ ∃ v2, r2 = .inl v2
theorem lg_25a (hT : HT H) (q : Pn none m 348 0 [(0, .ref 0), (1, .int (y 1)), (2, .int (y 2)), (3, .ref 578)] [] H r H') : frEd lM83 H r H' := lFr (M := lM83) (s := ([(0, .inl [0]), (1, .inr false), (2, .inr false), (3, .inl [578])], [])) lIn83 rfl (by decide +kernel) rfl (frLR_c rfl ⟨0, List.mem_singleton.mpr rfl, rfl⟩ (frLR_c rfl ⟨_, rfl⟩ (frLR_c rfl ⟨_, rfl⟩ (frLR_c rfl ⟨578, List.mem_singleton.mpr rfl, rfl⟩ frLR_n)))) hT q
theorem lg_25b (hT : HT H) (q : Pn none m 301 0 [(0, .ref 78), (1, .int (y 1)), (2, .int (y 2))] [] H r H') : frEd lM193 H r H' := lFr (M := lM193) (s := ([(0, .inl [78]), (1, .inr false), (2, .inr false)], [])) lIn193 rfl (by decide +kernel) rfl (frLR_c rfl ⟨78, List.mem_singleton.mpr rfl, rfl⟩ (frLR_c rfl ⟨_, rfl⟩ (frLR_c rfl ⟨_, rfl⟩ frLR_n))) hT q
theorem lf_25 (hT : HT H) (q : lq_25 y H H2) : HT H2 ∧ ∀ a b, frIn (lM83).2.2.1 a b = false → frIn (lM193).2.2.1 a b = false → sxEl H2 a b = sxEl H a b := by
  obtain ⟨m1, m2, r1, r2, H1, q1, q2, -⟩ := q
  have e1 := lg_25a hT q1
  have e2 := lg_25b e1.1 q2
  exact ⟨e2.1, fun a b z1 z2 => (e2.2.1 a b z2).trans (e1.2.1 a b z1)⟩
theorem ld_25 (q : lq_25 y H H2) (q' : lq_25 y H H3) : H3 = H2 := by
  obtain ⟨m1, m2, r1, r2, H1, q1, q2, -⟩ := q
  obtain ⟨m1', m2', r1', r2', H1', q1', q2', -⟩ := q'
  obtain ⟨-, e⟩ := Pn_det q1 q1'
  rw [e] at q2'
  exact (Pn_det q2 q2').2
theorem ln_25 (hT : HT H) (hL : lwL L i) (hy : lwY xs i y) (h : Pn (some xs) m 373 1047 L [] H r H') : (∃ E, r = .inr E) ∨ ∃ (L2 : mjL) (H2 : mjH), lq_25 y H H2 ∧ HT H2 ∧ lwL L2 (i + Int32.ofInt 6) ∧ Pn (some xs) m 373 23 L2 [] H2 r H' := by
  obtain ⟨y0, ⟨-, ey0⟩, y1, ⟨-, ey1⟩, L1, hL1, r1, H1, q1, k1⟩ := la_25 hT hL h
  rw [hy.1 _ ey0] at q1
  rw [hy.2.1 _ ey1] at q1
  have ed1 := lg_25a hT q1
  rcases k1 with ⟨v1, e1, h1⟩ | ⟨E, -, z, -⟩
  rotate_left
  · exact Or.inl ⟨E, z⟩
  obtain ⟨s0, hs0⟩ := lRi ed1 rfl e1
  rw [hs0] at h1
  obtain ⟨y0', ⟨-, ey0'⟩, y1', ⟨-, ey1'⟩, L2, hL2, r2, H2, q2, k2⟩ := lb_25 ed1.1 hL1 h1
  rw [hy.1 _ ey0'] at q2
  rw [hy.2.1 _ ey1'] at q2
  have ed2 := lg_25b ed1.1 q2
  rcases k2 with ⟨v2, e2, h2⟩ | ⟨E, -, z, -⟩
  rotate_left
  · exact Or.inl ⟨E, z⟩
  obtain ⟨s1, hs1⟩ := lRi ed2 rfl e2
  rw [hs1] at h2
  obtain ⟨L3, hL3, h3⟩ := lc_25 ed2.1 hL2 h2
  exact Or.inr ⟨L3, H2, ⟨_, _, _, _, H1, q1, q2, ⟨_, e1⟩, _, e2⟩, ed2.1, hL3, h3⟩
/-- whole -/
def lq_26 (y : Nat → Int32) (H H2 : mjH) : Prop := ∃ (m1 m2 : Nat) (r1 r2 : Option Value ⊕ Nat) (H1 : mjH), Pn none m1 349 0 [(0, .ref 0), (1, .int (y 1)), (2, .int (y 2)), (3, .ref 578)] [] H r1 H1 ∧ Pn none m2 302 0 [(0, .ref 78), (1, .int (y 1)), (2, .int (y 2))] [] H1 r2 H2 ∧ (∃ v1, r1 = .inl v1) ∧ ∃ v2, r2 = .inl v2
theorem lg_26a (hT : HT H) (q : Pn none m 349 0 [(0, .ref 0), (1, .int (y 1)), (2, .int (y 2)), (3, .ref 578)] [] H r H') : frEd lM84 H r H' := lFr (M := lM84) (s := ([(0, .inl [0]), (1, .inr false), (2, .inr false), (3, .inl [578])], [])) lIn84 rfl (by decide +kernel) rfl (frLR_c rfl ⟨0, List.mem_singleton.mpr rfl, rfl⟩ (frLR_c rfl ⟨_, rfl⟩ (frLR_c rfl ⟨_, rfl⟩ (frLR_c rfl ⟨578, List.mem_singleton.mpr rfl, rfl⟩ frLR_n)))) hT q
theorem lg_26b (hT : HT H) (q : Pn none m 302 0 [(0, .ref 78), (1, .int (y 1)), (2, .int (y 2))] [] H r H') : frEd lM194 H r H' := lFr (M := lM194) (s := ([(0, .inl [78]), (1, .inr false), (2, .inr false)], [])) lIn194 rfl (by decide +kernel) rfl (frLR_c rfl ⟨78, List.mem_singleton.mpr rfl, rfl⟩ (frLR_c rfl ⟨_, rfl⟩ (frLR_c rfl ⟨_, rfl⟩ frLR_n))) hT q
theorem lf_26 (hT : HT H) (q : lq_26 y H H2) : HT H2 ∧ ∀ a b, frIn (lM84).2.2.1 a b = false → frIn (lM194).2.2.1 a b = false → sxEl H2 a b = sxEl H a b := by
  obtain ⟨m1, m2, r1, r2, H1, q1, q2, -⟩ := q
  have e1 := lg_26a hT q1
  have e2 := lg_26b e1.1 q2
  exact ⟨e2.1, fun a b z1 z2 => (e2.2.1 a b z2).trans (e1.2.1 a b z1)⟩
theorem ld_26 (q : lq_26 y H H2) (q' : lq_26 y H H3) : H3 = H2 := by
  obtain ⟨m1, m2, r1, r2, H1, q1, q2, -⟩ := q
  obtain ⟨m1', m2', r1', r2', H1', q1', q2', -⟩ := q'
  obtain ⟨-, e⟩ := Pn_det q1 q1'
  rw [e] at q2'
  exact (Pn_det q2 q2').2
theorem ln_26 (hT : HT H) (hL : lwL L i) (hy : lwY xs i y) (h : Pn (some xs) m 373 1087 L [] H r H') : (∃ E, r = .inr E) ∨ ∃ (L2 : mjL) (H2 : mjH), lq_26 y H H2 ∧ HT H2 ∧ lwL L2 (i + Int32.ofInt 6) ∧ Pn (some xs) m 373 23 L2 [] H2 r H' := by
  obtain ⟨y0, ⟨-, ey0⟩, y1, ⟨-, ey1⟩, L1, hL1, r1, H1, q1, k1⟩ := la_26 hT hL h
  rw [hy.1 _ ey0] at q1
  rw [hy.2.1 _ ey1] at q1
  have ed1 := lg_26a hT q1
  rcases k1 with ⟨v1, e1, h1⟩ | ⟨E, -, z, -⟩
  rotate_left
  · exact Or.inl ⟨E, z⟩
  obtain ⟨s0, hs0⟩ := lRi ed1 rfl e1
  rw [hs0] at h1
  obtain ⟨y0', ⟨-, ey0'⟩, y1', ⟨-, ey1'⟩, L2, hL2, r2, H2, q2, k2⟩ := lb_26 ed1.1 hL1 h1
  rw [hy.1 _ ey0'] at q2
  rw [hy.2.1 _ ey1'] at q2
  have ed2 := lg_26b ed1.1 q2
  rcases k2 with ⟨v2, e2, h2⟩ | ⟨E, -, z, -⟩
  rotate_left
  · exact Or.inl ⟨E, z⟩
  obtain ⟨s1, hs1⟩ := lRi ed2 rfl e2
  rw [hs1] at h2
  obtain ⟨L3, hL3, h3⟩ := lc_26 ed2.1 hL2 h2
  exact Or.inr ⟨L3, H2, ⟨_, _, _, _, H1, q1, q2, ⟨_, e1⟩, _, e2⟩, ed2.1, hL3, h3⟩
/-- proof -/
def lq_27 (y : Nat → Int32) (H H2 : mjH) : Prop := ∃ (m1 m2 : Nat) (r1 r2 : Option Value ⊕ Nat) (H1 : mjH), Pn none m1 350 0 [(0, .ref 0), (1, .int (y 1)), (2, .ref 578)] [] H r1 H1 ∧ Pn none m2 303 0 [(0, .ref 78), (1, .int (y 1))] [] H1 r2 H2 ∧ (∃ v1, r1 = .inl v1) ∧ ∃ v2, r2 = .inl v2
theorem lg_27a (hT : HT H) (q : Pn none m 350 0 [(0, .ref 0), (1, .int (y 1)), (2, .ref 578)] [] H r H') : frEd lM85 H r H' := lFr (M := lM85) (s := ([(0, .inl [0]), (1, .inr false), (2, .inl [578])], [])) lIn85 rfl (by decide +kernel) rfl (frLR_c rfl ⟨0, List.mem_singleton.mpr rfl, rfl⟩ (frLR_c rfl ⟨_, rfl⟩ (frLR_c rfl ⟨578, List.mem_singleton.mpr rfl, rfl⟩ frLR_n))) hT q
theorem lg_27b (hT : HT H) (q : Pn none m 303 0 [(0, .ref 78), (1, .int (y 1))] [] H r H') : frEd lM195 H r H' := lFr (M := lM195) (s := ([(0, .inl [78]), (1, .inr false)], [])) lIn195 rfl (by decide +kernel) rfl (frLR_c rfl ⟨78, List.mem_singleton.mpr rfl, rfl⟩ (frLR_c rfl ⟨_, rfl⟩ frLR_n)) hT q
theorem lf_27 (hT : HT H) (q : lq_27 y H H2) : HT H2 ∧ ∀ a b, frIn (lM85).2.2.1 a b = false → frIn (lM195).2.2.1 a b = false → sxEl H2 a b = sxEl H a b := by
  obtain ⟨m1, m2, r1, r2, H1, q1, q2, -⟩ := q
  have e1 := lg_27a hT q1
  have e2 := lg_27b e1.1 q2
  exact ⟨e2.1, fun a b z1 z2 => (e2.2.1 a b z2).trans (e1.2.1 a b z1)⟩
theorem ld_27 (q : lq_27 y H H2) (q' : lq_27 y H H3) : H3 = H2 := by
  obtain ⟨m1, m2, r1, r2, H1, q1, q2, -⟩ := q
  obtain ⟨m1', m2', r1', r2', H1', q1', q2', -⟩ := q'
  obtain ⟨-, e⟩ := Pn_det q1 q1'
  rw [e] at q2'
  exact (Pn_det q2 q2').2
theorem ln_27 (hT : HT H) (hL : lwL L i) (hy : lwY xs i y) (h : Pn (some xs) m 373 1127 L [] H r H') : (∃ E, r = .inr E) ∨ ∃ (L2 : mjL) (H2 : mjH), lq_27 y H H2 ∧ HT H2 ∧ lwL L2 (i + Int32.ofInt 6) ∧ Pn (some xs) m 373 23 L2 [] H2 r H' := by
  obtain ⟨y0, ⟨-, ey0⟩, L1, hL1, r1, H1, q1, k1⟩ := la_27 hT hL h
  rw [hy.1 _ ey0] at q1
  have ed1 := lg_27a hT q1
  rcases k1 with ⟨v1, e1, h1⟩ | ⟨E, -, z, -⟩
  rotate_left
  · exact Or.inl ⟨E, z⟩
  obtain ⟨s0, hs0⟩ := lRi ed1 rfl e1
  rw [hs0] at h1
  obtain ⟨y0', ⟨-, ey0'⟩, L2, hL2, r2, H2, q2, k2⟩ := lb_27 ed1.1 hL1 h1
  rw [hy.1 _ ey0'] at q2
  have ed2 := lg_27b ed1.1 q2
  rcases k2 with ⟨v2, e2, h2⟩ | ⟨E, -, z, -⟩
  rotate_left
  · exact Or.inl ⟨E, z⟩
  obtain ⟨s1, hs1⟩ := lRi ed2 rfl e2
  rw [hs1] at h2
  obtain ⟨L3, hL3, h3⟩ := lc_27 ed2.1 hL2 h2
  exact Or.inr ⟨L3, H2, ⟨_, _, _, _, H1, q1, q2, ⟨_, e1⟩, _, e2⟩, ed2.1, hL3, h3⟩
/-- split -/
def lq_28 (y : Nat → Int32) (H H2 : mjH) : Prop := ∃ (m1 m2 : Nat) (r1 r2 : Option Value ⊕ Nat) (H1 : mjH), Pn none m1 351 0 [(0, .ref 0), (1, .int (y 1)), (2, .int (y 2)), (3, .ref 578)] [] H r1 H1 ∧ Pn none m2 304 0 [(0, .ref 78), (1, .int (y 1)), (2, .int (y 2))] [] H1 r2 H2 ∧ (∃ v1, r1 = .inl v1) ∧ ∃ v2, r2 = .inl v2
theorem lg_28a (hT : HT H) (q : Pn none m 351 0 [(0, .ref 0), (1, .int (y 1)), (2, .int (y 2)), (3, .ref 578)] [] H r H') : frEd lM86 H r H' := lFr (M := lM86) (s := ([(0, .inl [0]), (1, .inr false), (2, .inr false), (3, .inl [578])], [])) lIn86 rfl (by decide +kernel) rfl (frLR_c rfl ⟨0, List.mem_singleton.mpr rfl, rfl⟩ (frLR_c rfl ⟨_, rfl⟩ (frLR_c rfl ⟨_, rfl⟩ (frLR_c rfl ⟨578, List.mem_singleton.mpr rfl, rfl⟩ frLR_n)))) hT q
theorem lg_28b (hT : HT H) (q : Pn none m 304 0 [(0, .ref 78), (1, .int (y 1)), (2, .int (y 2))] [] H r H') : frEd lM196 H r H' := lFr (M := lM196) (s := ([(0, .inl [78]), (1, .inr false), (2, .inr false)], [])) lIn196 rfl (by decide +kernel) rfl (frLR_c rfl ⟨78, List.mem_singleton.mpr rfl, rfl⟩ (frLR_c rfl ⟨_, rfl⟩ (frLR_c rfl ⟨_, rfl⟩ frLR_n))) hT q
theorem lf_28 (hT : HT H) (q : lq_28 y H H2) : HT H2 ∧ ∀ a b, frIn (lM86).2.2.1 a b = false → frIn (lM196).2.2.1 a b = false → sxEl H2 a b = sxEl H a b := by
  obtain ⟨m1, m2, r1, r2, H1, q1, q2, -⟩ := q
  have e1 := lg_28a hT q1
  have e2 := lg_28b e1.1 q2
  exact ⟨e2.1, fun a b z1 z2 => (e2.2.1 a b z2).trans (e1.2.1 a b z1)⟩
theorem ld_28 (q : lq_28 y H H2) (q' : lq_28 y H H3) : H3 = H2 := by
  obtain ⟨m1, m2, r1, r2, H1, q1, q2, -⟩ := q
  obtain ⟨m1', m2', r1', r2', H1', q1', q2', -⟩ := q'
  obtain ⟨-, e⟩ := Pn_det q1 q1'
  rw [e] at q2'
  exact (Pn_det q2 q2').2
theorem ln_28 (hT : HT H) (hL : lwL L i) (hy : lwY xs i y) (h : Pn (some xs) m 373 1155 L [] H r H') : (∃ E, r = .inr E) ∨ ∃ (L2 : mjL) (H2 : mjH), lq_28 y H H2 ∧ HT H2 ∧ lwL L2 (i + Int32.ofInt 6) ∧ Pn (some xs) m 373 23 L2 [] H2 r H' := by
  obtain ⟨y0, ⟨-, ey0⟩, y1, ⟨-, ey1⟩, L1, hL1, r1, H1, q1, k1⟩ := la_28 hT hL h
  rw [hy.1 _ ey0] at q1
  rw [hy.2.1 _ ey1] at q1
  have ed1 := lg_28a hT q1
  rcases k1 with ⟨v1, e1, h1⟩ | ⟨E, -, z, -⟩
  rotate_left
  · exact Or.inl ⟨E, z⟩
  obtain ⟨s0, hs0⟩ := lRi ed1 rfl e1
  rw [hs0] at h1
  obtain ⟨y0', ⟨-, ey0'⟩, y1', ⟨-, ey1'⟩, L2, hL2, r2, H2, q2, k2⟩ := lb_28 ed1.1 hL1 h1
  rw [hy.1 _ ey0'] at q2
  rw [hy.2.1 _ ey1'] at q2
  have ed2 := lg_28b ed1.1 q2
  rcases k2 with ⟨v2, e2, h2⟩ | ⟨E, -, z, -⟩
  rotate_left
  · exact Or.inl ⟨E, z⟩
  obtain ⟨s1, hs1⟩ := lRi ed2 rfl e2
  rw [hs1] at h2
  obtain ⟨L3, hL3, h3⟩ := lc_28 ed2.1 hL2 h2
  exact Or.inr ⟨L3, H2, ⟨_, _, _, _, H1, q1, q2, ⟨_, e1⟩, _, e2⟩, ed2.1, hL3, h3⟩
/-- salted -/
def lq_30 (y : Nat → Int32) (H H2 : mjH) : Prop := ∃ (m1 m2 : Nat) (r1 r2 : Option Value ⊕ Nat) (H1 : mjH), Pn none m1 353 0 [(0, .ref 0), (1, .int (y 1)), (2, .ref 578)] [] H r1 H1 ∧ Pn none m2 311 0 [(0, .ref 78), (1, .int (y 1))] [] H1 r2 H2 ∧ (∃ v1, r1 = .inl v1) ∧ ∃ v2, r2 = .inl v2
theorem lg_30a (hT : HT H) (q : Pn none m 353 0 [(0, .ref 0), (1, .int (y 1)), (2, .ref 578)] [] H r H') : frEd lM88 H r H' := lFr (M := lM88) (s := ([(0, .inl [0]), (1, .inr false), (2, .inl [578])], [])) lIn88 rfl (by decide +kernel) rfl (frLR_c rfl ⟨0, List.mem_singleton.mpr rfl, rfl⟩ (frLR_c rfl ⟨_, rfl⟩ (frLR_c rfl ⟨578, List.mem_singleton.mpr rfl, rfl⟩ frLR_n))) hT q
theorem lg_30b (hT : HT H) (q : Pn none m 311 0 [(0, .ref 78), (1, .int (y 1))] [] H r H') : frEd lM198 H r H' := lFr (M := lM198) (s := ([(0, .inl [78]), (1, .inr false)], [])) lIn198 rfl (by decide +kernel) rfl (frLR_c rfl ⟨78, List.mem_singleton.mpr rfl, rfl⟩ (frLR_c rfl ⟨_, rfl⟩ frLR_n)) hT q
theorem lf_30 (hT : HT H) (q : lq_30 y H H2) : HT H2 ∧ ∀ a b, frIn (lM88).2.2.1 a b = false → frIn (lM198).2.2.1 a b = false → sxEl H2 a b = sxEl H a b := by
  obtain ⟨m1, m2, r1, r2, H1, q1, q2, -⟩ := q
  have e1 := lg_30a hT q1
  have e2 := lg_30b e1.1 q2
  exact ⟨e2.1, fun a b z1 z2 => (e2.2.1 a b z2).trans (e1.2.1 a b z1)⟩
theorem ld_30 (q : lq_30 y H H2) (q' : lq_30 y H H3) : H3 = H2 := by
  obtain ⟨m1, m2, r1, r2, H1, q1, q2, -⟩ := q
  obtain ⟨m1', m2', r1', r2', H1', q1', q2', -⟩ := q'
  obtain ⟨-, e⟩ := Pn_det q1 q1'
  rw [e] at q2'
  exact (Pn_det q2 q2').2
theorem ln_30 (hT : HT H) (hL : lwL L i) (hy : lwY xs i y) (h : Pn (some xs) m 373 1251 L [] H r H') : (∃ E, r = .inr E) ∨ ∃ (L2 : mjL) (H2 : mjH), lq_30 y H H2 ∧ HT H2 ∧ lwL L2 (i + Int32.ofInt 6) ∧ Pn (some xs) m 373 23 L2 [] H2 r H' := by
  obtain ⟨y0, ⟨-, ey0⟩, L1, hL1, r1, H1, q1, k1⟩ := la_30 hT hL h
  rw [hy.1 _ ey0] at q1
  have ed1 := lg_30a hT q1
  rcases k1 with ⟨v1, e1, h1⟩ | ⟨E, -, z, -⟩
  rotate_left
  · exact Or.inl ⟨E, z⟩
  obtain ⟨s0, hs0⟩ := lRi ed1 rfl e1
  rw [hs0] at h1
  obtain ⟨y0', ⟨-, ey0'⟩, L2, hL2, r2, H2, q2, k2⟩ := lb_30 ed1.1 hL1 h1
  rw [hy.1 _ ey0'] at q2
  have ed2 := lg_30b ed1.1 q2
  rcases k2 with ⟨v2, e2, h2⟩ | ⟨E, -, z, -⟩
  rotate_left
  · exact Or.inl ⟨E, z⟩
  obtain ⟨s1, hs1⟩ := lRi ed2 rfl e2
  rw [hs1] at h2
  obtain ⟨L3, hL3, h3⟩ := lc_30 ed2.1 hL2 h2
  exact Or.inr ⟨L3, H2, ⟨_, _, _, _, H1, q1, q2, ⟨_, e1⟩, _, e2⟩, ed2.1, hL3, h3⟩
/-- salty -/
def lq_31 (y : Nat → Int32) (H H2 : mjH) : Prop := ∃ (m1 m2 : Nat) (r1 r2 : Option Value ⊕ Nat) (H1 : mjH), Pn none m1 354 0 [(0, .ref 0), (1, .int (y 1)), (2, .ref 578)] [] H r1 H1 ∧ Pn none m2 312 0 [(0, .ref 78), (1, .int (y 1))] [] H1 r2 H2 ∧ (∃ v1, r1 = .inl v1) ∧ ∃ v2, r2 = .inl v2
theorem lg_31a (hT : HT H) (q : Pn none m 354 0 [(0, .ref 0), (1, .int (y 1)), (2, .ref 578)] [] H r H') : frEd lM89 H r H' := lFr (M := lM89) (s := ([(0, .inl [0]), (1, .inr false), (2, .inl [578])], [])) lIn89 rfl (by decide +kernel) rfl (frLR_c rfl ⟨0, List.mem_singleton.mpr rfl, rfl⟩ (frLR_c rfl ⟨_, rfl⟩ (frLR_c rfl ⟨578, List.mem_singleton.mpr rfl, rfl⟩ frLR_n))) hT q
theorem lg_31b (hT : HT H) (q : Pn none m 312 0 [(0, .ref 78), (1, .int (y 1))] [] H r H') : frEd lM199 H r H' := lFr (M := lM199) (s := ([(0, .inl [78]), (1, .inr false)], [])) lIn199 rfl (by decide +kernel) rfl (frLR_c rfl ⟨78, List.mem_singleton.mpr rfl, rfl⟩ (frLR_c rfl ⟨_, rfl⟩ frLR_n)) hT q
theorem lf_31 (hT : HT H) (q : lq_31 y H H2) : HT H2 ∧ ∀ a b, frIn (lM89).2.2.1 a b = false → frIn (lM199).2.2.1 a b = false → sxEl H2 a b = sxEl H a b := by
  obtain ⟨m1, m2, r1, r2, H1, q1, q2, -⟩ := q
  have e1 := lg_31a hT q1
  have e2 := lg_31b e1.1 q2
  exact ⟨e2.1, fun a b z1 z2 => (e2.2.1 a b z2).trans (e1.2.1 a b z1)⟩
theorem ld_31 (q : lq_31 y H H2) (q' : lq_31 y H H3) : H3 = H2 := by
  obtain ⟨m1, m2, r1, r2, H1, q1, q2, -⟩ := q
  obtain ⟨m1', m2', r1', r2', H1', q1', q2', -⟩ := q'
  obtain ⟨-, e⟩ := Pn_det q1 q1'
  rw [e] at q2'
  exact (Pn_det q2 q2').2
theorem ln_31 (hT : HT H) (hL : lwL L i) (hy : lwY xs i y) (h : Pn (some xs) m 373 1279 L [] H r H') : (∃ E, r = .inr E) ∨ ∃ (L2 : mjL) (H2 : mjH), lq_31 y H H2 ∧ HT H2 ∧ lwL L2 (i + Int32.ofInt 6) ∧ Pn (some xs) m 373 23 L2 [] H2 r H' := by
  obtain ⟨y0, ⟨-, ey0⟩, L1, hL1, r1, H1, q1, k1⟩ := la_31 hT hL h
  rw [hy.1 _ ey0] at q1
  have ed1 := lg_31a hT q1
  rcases k1 with ⟨v1, e1, h1⟩ | ⟨E, -, z, -⟩
  rotate_left
  · exact Or.inl ⟨E, z⟩
  obtain ⟨s0, hs0⟩ := lRi ed1 rfl e1
  rw [hs0] at h1
  obtain ⟨y0', ⟨-, ey0'⟩, L2, hL2, r2, H2, q2, k2⟩ := lb_31 ed1.1 hL1 h1
  rw [hy.1 _ ey0'] at q2
  have ed2 := lg_31b ed1.1 q2
  rcases k2 with ⟨v2, e2, h2⟩ | ⟨E, -, z, -⟩
  rotate_left
  · exact Or.inl ⟨E, z⟩
  obtain ⟨s1, hs1⟩ := lRi ed2 rfl e2
  rw [hs1] at h2
  obtain ⟨L3, hL3, h3⟩ := lc_31 ed2.1 hL2 h2
  exact Or.inr ⟨L3, H2, ⟨_, _, _, _, H1, q1, q2, ⟨_, e1⟩, _, e2⟩, ed2.1, hL3, h3⟩
/-- compared -/
def lq_32 (y : Nat → Int32) (H H2 : mjH) : Prop := ∃ (m1 m2 : Nat) (r1 r2 : Option Value ⊕ Nat) (H1 : mjH), Pn none m1 355 0 [(0, .ref 0), (1, .int (y 1)), (2, .ref 578)] [] H r1 H1 ∧ Pn none m2 289 0 [(0, .ref 78), (1, .int (y 1))] [] H1 r2 H2 ∧ (∃ v1, r1 = .inl v1) ∧ ∃ v2, r2 = .inl v2
theorem lg_32a (hT : HT H) (q : Pn none m 355 0 [(0, .ref 0), (1, .int (y 1)), (2, .ref 578)] [] H r H') : frEd lM90 H r H' := lFr (M := lM90) (s := ([(0, .inl [0]), (1, .inr false), (2, .inl [578])], [])) lIn90 rfl (by decide +kernel) rfl (frLR_c rfl ⟨0, List.mem_singleton.mpr rfl, rfl⟩ (frLR_c rfl ⟨_, rfl⟩ (frLR_c rfl ⟨578, List.mem_singleton.mpr rfl, rfl⟩ frLR_n))) hT q
theorem lg_32b (hT : HT H) (q : Pn none m 289 0 [(0, .ref 78), (1, .int (y 1))] [] H r H') : frEd lM200 H r H' := lFr (M := lM200) (s := ([(0, .inl [78]), (1, .inr false)], [])) lIn200 rfl (by decide +kernel) rfl (frLR_c rfl ⟨78, List.mem_singleton.mpr rfl, rfl⟩ (frLR_c rfl ⟨_, rfl⟩ frLR_n)) hT q
theorem lf_32 (hT : HT H) (q : lq_32 y H H2) : HT H2 ∧ ∀ a b, frIn (lM90).2.2.1 a b = false → frIn (lM200).2.2.1 a b = false → sxEl H2 a b = sxEl H a b := by
  obtain ⟨m1, m2, r1, r2, H1, q1, q2, -⟩ := q
  have e1 := lg_32a hT q1
  have e2 := lg_32b e1.1 q2
  exact ⟨e2.1, fun a b z1 z2 => (e2.2.1 a b z2).trans (e1.2.1 a b z1)⟩
theorem ld_32 (q : lq_32 y H H2) (q' : lq_32 y H H3) : H3 = H2 := by
  obtain ⟨m1, m2, r1, r2, H1, q1, q2, -⟩ := q
  obtain ⟨m1', m2', r1', r2', H1', q1', q2', -⟩ := q'
  obtain ⟨-, e⟩ := Pn_det q1 q1'
  rw [e] at q2'
  exact (Pn_det q2 q2').2
theorem ln_32 (hT : HT H) (hL : lwL L i) (hy : lwY xs i y) (h : Pn (some xs) m 373 1307 L [] H r H') : (∃ E, r = .inr E) ∨ ∃ (L2 : mjL) (H2 : mjH), lq_32 y H H2 ∧ HT H2 ∧ lwL L2 (i + Int32.ofInt 6) ∧ Pn (some xs) m 373 23 L2 [] H2 r H' := by
  obtain ⟨y0, ⟨-, ey0⟩, L1, hL1, r1, H1, q1, k1⟩ := la_32 hT hL h
  rw [hy.1 _ ey0] at q1
  have ed1 := lg_32a hT q1
  rcases k1 with ⟨v1, e1, h1⟩ | ⟨E, -, z, -⟩
  rotate_left
  · exact Or.inl ⟨E, z⟩
  obtain ⟨s0, hs0⟩ := lRi ed1 rfl e1
  rw [hs0] at h1
  obtain ⟨y0', ⟨-, ey0'⟩, L2, hL2, r2, H2, q2, k2⟩ := lb_32 ed1.1 hL1 h1
  rw [hy.1 _ ey0'] at q2
  have ed2 := lg_32b ed1.1 q2
  rcases k2 with ⟨v2, e2, h2⟩ | ⟨E, -, z, -⟩
  rotate_left
  · exact Or.inl ⟨E, z⟩
  obtain ⟨s1, hs1⟩ := lRi ed2 rfl e2
  rw [hs1] at h2
  obtain ⟨L3, hL3, h3⟩ := lc_32 ed2.1 hL2 h2
  exact Or.inr ⟨L3, H2, ⟨_, _, _, _, H1, q1, q2, ⟨_, e1⟩, _, e2⟩, ed2.1, hL3, h3⟩
/-- drawn -/
def lq_33 (y : Nat → Int32) (H H2 : mjH) : Prop := ∃ (m1 m2 : Nat) (r1 r2 : Option Value ⊕ Nat) (H1 : mjH), Pn none m1 356 0 [(0, .ref 0), (1, .int (y 1)), (2, .int (y 2)), (3, .int (y 3)), (4, .ref 578)] [] H r1 H1 ∧ Pn none m2 292 0 [(0, .ref 78), (1, .int (y 1)), (2, .int (y 2)), (3, .int (y 3))] [] H1 r2 H2 ∧ (∃ v1, r1 = .inl v1) ∧ ∃ v2, r2 = .inl v2
theorem lg_33a (hT : HT H) (q : Pn none m 356 0 [(0, .ref 0), (1, .int (y 1)), (2, .int (y 2)), (3, .int (y 3)), (4, .ref 578)] [] H r H') : frEd lM91 H r H' := lFr (M := lM91) (s := ([(0, .inl [0]), (1, .inr false), (2, .inr false), (3, .inr false), (4, .inl [578])], [])) lIn91 rfl (by decide +kernel) rfl (frLR_c rfl ⟨0, List.mem_singleton.mpr rfl, rfl⟩ (frLR_c rfl ⟨_, rfl⟩ (frLR_c rfl ⟨_, rfl⟩ (frLR_c rfl ⟨_, rfl⟩ (frLR_c rfl ⟨578, List.mem_singleton.mpr rfl, rfl⟩ frLR_n))))) hT q
theorem lg_33b (hT : HT H) (q : Pn none m 292 0 [(0, .ref 78), (1, .int (y 1)), (2, .int (y 2)), (3, .int (y 3))] [] H r H') : frEd lM201 H r H' := lFr (M := lM201) (s := ([(0, .inl [78]), (1, .inr false), (2, .inr false), (3, .inr false)], [])) lIn201 rfl (by decide +kernel) rfl (frLR_c rfl ⟨78, List.mem_singleton.mpr rfl, rfl⟩ (frLR_c rfl ⟨_, rfl⟩ (frLR_c rfl ⟨_, rfl⟩ (frLR_c rfl ⟨_, rfl⟩ frLR_n)))) hT q
theorem lf_33 (hT : HT H) (q : lq_33 y H H2) : HT H2 ∧ ∀ a b, frIn (lM91).2.2.1 a b = false → frIn (lM201).2.2.1 a b = false → sxEl H2 a b = sxEl H a b := by
  obtain ⟨m1, m2, r1, r2, H1, q1, q2, -⟩ := q
  have e1 := lg_33a hT q1
  have e2 := lg_33b e1.1 q2
  exact ⟨e2.1, fun a b z1 z2 => (e2.2.1 a b z2).trans (e1.2.1 a b z1)⟩
theorem ld_33 (q : lq_33 y H H2) (q' : lq_33 y H H3) : H3 = H2 := by
  obtain ⟨m1, m2, r1, r2, H1, q1, q2, -⟩ := q
  obtain ⟨m1', m2', r1', r2', H1', q1', q2', -⟩ := q'
  obtain ⟨-, e⟩ := Pn_det q1 q1'
  rw [e] at q2'
  exact (Pn_det q2 q2').2
theorem ln_33 (hT : HT H) (hL : lwL L i) (hy : lwY xs i y) (h : Pn (some xs) m 373 1335 L [] H r H') : (∃ E, r = .inr E) ∨ ∃ (L2 : mjL) (H2 : mjH), lq_33 y H H2 ∧ HT H2 ∧ lwL L2 (i + Int32.ofInt 6) ∧ Pn (some xs) m 373 23 L2 [] H2 r H' := by
  obtain ⟨y0, ⟨-, ey0⟩, y1, ⟨-, ey1⟩, y2, ⟨-, ey2⟩, L1, hL1, r1, H1, q1, k1⟩ := la_33 hT hL h
  rw [hy.1 _ ey0] at q1
  rw [hy.2.1 _ ey1] at q1
  rw [hy.2.2.1 _ ey2] at q1
  have ed1 := lg_33a hT q1
  rcases k1 with ⟨v1, e1, h1⟩ | ⟨E, -, z, -⟩
  rotate_left
  · exact Or.inl ⟨E, z⟩
  obtain ⟨s0, hs0⟩ := lRi ed1 rfl e1
  rw [hs0] at h1
  obtain ⟨y0', ⟨-, ey0'⟩, y1', ⟨-, ey1'⟩, y2', ⟨-, ey2'⟩, L2, hL2, r2, H2, q2, k2⟩ := lb_33 ed1.1 hL1 h1
  rw [hy.1 _ ey0'] at q2
  rw [hy.2.1 _ ey1'] at q2
  rw [hy.2.2.1 _ ey2'] at q2
  have ed2 := lg_33b ed1.1 q2
  rcases k2 with ⟨v2, e2, h2⟩ | ⟨E, -, z, -⟩
  rotate_left
  · exact Or.inl ⟨E, z⟩
  obtain ⟨s1, hs1⟩ := lRi ed2 rfl e2
  rw [hs1] at h2
  obtain ⟨L3, hL3, h3⟩ := lc_33 ed2.1 hL2 h2
  exact Or.inr ⟨L3, H2, ⟨_, _, _, _, H1, q1, q2, ⟨_, e1⟩, _, e2⟩, ed2.1, hL3, h3⟩
/-- draw -/
def lq_34 (y : Nat → Int32) (H H2 : mjH) : Prop := ∃ (m1 m2 : Nat) (r1 r2 : Option Value ⊕ Nat) (H1 : mjH), Pn none m1 147 0 [(0, .ref 0), (1, .int (y 1)), (2, .int (y 2))] [] H r1 H1 ∧ Pn none m2 293 0 [(0, .ref 78), (1, .int (y 1)), (2, .int (y 2))] [] H1 r2 H2 ∧ (∃ v1, r1 = .inl v1) ∧ ∃ v2, r2 = .inl v2
theorem lg_34a (hT : HT H) (q : Pn none m 147 0 [(0, .ref 0), (1, .int (y 1)), (2, .int (y 2))] [] H r H') : frEd lM92 H r H' := lFr (M := lM92) (s := ([(0, .inl [0]), (1, .inr false), (2, .inr false)], [])) lIn92 rfl (by decide +kernel) rfl (frLR_c rfl ⟨0, List.mem_singleton.mpr rfl, rfl⟩ (frLR_c rfl ⟨_, rfl⟩ (frLR_c rfl ⟨_, rfl⟩ frLR_n))) hT q
theorem lg_34b (hT : HT H) (q : Pn none m 293 0 [(0, .ref 78), (1, .int (y 1)), (2, .int (y 2))] [] H r H') : frEd lM202 H r H' := lFr (M := lM202) (s := ([(0, .inl [78]), (1, .inr false), (2, .inr false)], [])) lIn202 rfl (by decide +kernel) rfl (frLR_c rfl ⟨78, List.mem_singleton.mpr rfl, rfl⟩ (frLR_c rfl ⟨_, rfl⟩ (frLR_c rfl ⟨_, rfl⟩ frLR_n))) hT q
theorem lf_34 (hT : HT H) (q : lq_34 y H H2) : HT H2 ∧ ∀ a b, frIn (lM92).2.2.1 a b = false → frIn (lM202).2.2.1 a b = false → sxEl H2 a b = sxEl H a b := by
  obtain ⟨m1, m2, r1, r2, H1, q1, q2, -⟩ := q
  have e1 := lg_34a hT q1
  have e2 := lg_34b e1.1 q2
  exact ⟨e2.1, fun a b z1 z2 => (e2.2.1 a b z2).trans (e1.2.1 a b z1)⟩
theorem ld_34 (q : lq_34 y H H2) (q' : lq_34 y H H3) : H3 = H2 := by
  obtain ⟨m1, m2, r1, r2, H1, q1, q2, -⟩ := q
  obtain ⟨m1', m2', r1', r2', H1', q1', q2', -⟩ := q'
  obtain ⟨-, e⟩ := Pn_det q1 q1'
  rw [e] at q2'
  exact (Pn_det q2 q2').2
theorem ln_34 (hT : HT H) (hL : lwL L i) (hy : lwY xs i y) (h : Pn (some xs) m 373 1387 L [] H r H') : (∃ E, r = .inr E) ∨ ∃ (L2 : mjL) (H2 : mjH), lq_34 y H H2 ∧ HT H2 ∧ lwL L2 (i + Int32.ofInt 6) ∧ Pn (some xs) m 373 23 L2 [] H2 r H' := by
  obtain ⟨y0, ⟨-, ey0⟩, y1, ⟨-, ey1⟩, L1, hL1, r1, H1, q1, k1⟩ := la_34 hT hL h
  rw [hy.1 _ ey0] at q1
  rw [hy.2.1 _ ey1] at q1
  have ed1 := lg_34a hT q1
  rcases k1 with ⟨v1, e1, h1⟩ | ⟨E, -, z, -⟩
  rotate_left
  · exact Or.inl ⟨E, z⟩
  obtain ⟨s0, hs0⟩ := lRi ed1 rfl e1
  rw [hs0] at h1
  obtain ⟨y0', ⟨-, ey0'⟩, y1', ⟨-, ey1'⟩, L2, hL2, r2, H2, q2, k2⟩ := lb_34 ed1.1 hL1 h1
  rw [hy.1 _ ey0'] at q2
  rw [hy.2.1 _ ey1'] at q2
  have ed2 := lg_34b ed1.1 q2
  rcases k2 with ⟨v2, e2, h2⟩ | ⟨E, -, z, -⟩
  rotate_left
  · exact Or.inl ⟨E, z⟩
  obtain ⟨s1, hs1⟩ := lRi ed2 rfl e2
  rw [hs1] at h2
  obtain ⟨L3, hL3, h3⟩ := lc_34 ed2.1 hL2 h2
  exact Or.inr ⟨L3, H2, ⟨_, _, _, _, H1, q1, q2, ⟨_, e1⟩, _, e2⟩, ed2.1, hL3, h3⟩
/-- school -/
def lq_35 (y : Nat → Int32) (H H2 : mjH) : Prop := ∃ (m1 m2 : Nat) (r1 r2 : Option Value ⊕ Nat) (H1 : mjH), Pn none m1 357 0 [(0, .ref 0), (1, .int (y 1)), (2, .int (y 2)), (3, .ref 578)] [] H r1 H1 ∧ Pn none m2 315 0 [(0, .ref 78), (1, .int (y 1)), (2, .int (y 2))] [] H1 r2 H2 ∧ (∃ v1, r1 = .inl v1) ∧ ∃ v2, r2 = .inl v2
theorem lg_35a (hT : HT H) (q : Pn none m 357 0 [(0, .ref 0), (1, .int (y 1)), (2, .int (y 2)), (3, .ref 578)] [] H r H') : frEd lM93 H r H' := lFr (M := lM93) (s := ([(0, .inl [0]), (1, .inr false), (2, .inr false), (3, .inl [578])], [])) lIn93 rfl (by decide +kernel) rfl (frLR_c rfl ⟨0, List.mem_singleton.mpr rfl, rfl⟩ (frLR_c rfl ⟨_, rfl⟩ (frLR_c rfl ⟨_, rfl⟩ (frLR_c rfl ⟨578, List.mem_singleton.mpr rfl, rfl⟩ frLR_n)))) hT q
theorem lg_35b (hT : HT H) (q : Pn none m 315 0 [(0, .ref 78), (1, .int (y 1)), (2, .int (y 2))] [] H r H') : frEd lM203 H r H' := lFr (M := lM203) (s := ([(0, .inl [78]), (1, .inr false), (2, .inr false)], [])) lIn203 rfl (by decide +kernel) rfl (frLR_c rfl ⟨78, List.mem_singleton.mpr rfl, rfl⟩ (frLR_c rfl ⟨_, rfl⟩ (frLR_c rfl ⟨_, rfl⟩ frLR_n))) hT q
theorem lf_35 (hT : HT H) (q : lq_35 y H H2) : HT H2 ∧ ∀ a b, frIn (lM93).2.2.1 a b = false → frIn (lM203).2.2.1 a b = false → sxEl H2 a b = sxEl H a b := by
  obtain ⟨m1, m2, r1, r2, H1, q1, q2, -⟩ := q
  have e1 := lg_35a hT q1
  have e2 := lg_35b e1.1 q2
  exact ⟨e2.1, fun a b z1 z2 => (e2.2.1 a b z2).trans (e1.2.1 a b z1)⟩
theorem ld_35 (q : lq_35 y H H2) (q' : lq_35 y H H3) : H3 = H2 := by
  obtain ⟨m1, m2, r1, r2, H1, q1, q2, -⟩ := q
  obtain ⟨m1', m2', r1', r2', H1', q1', q2', -⟩ := q'
  obtain ⟨-, e⟩ := Pn_det q1 q1'
  rw [e] at q2'
  exact (Pn_det q2 q2').2
theorem ln_35 (hT : HT H) (hL : lwL L i) (hy : lwY xs i y) (h : Pn (some xs) m 373 1424 L [] H r H') : (∃ E, r = .inr E) ∨ ∃ (L2 : mjL) (H2 : mjH), lq_35 y H H2 ∧ HT H2 ∧ lwL L2 (i + Int32.ofInt 6) ∧ Pn (some xs) m 373 23 L2 [] H2 r H' := by
  obtain ⟨y0, ⟨-, ey0⟩, y1, ⟨-, ey1⟩, L1, hL1, r1, H1, q1, k1⟩ := la_35 hT hL h
  rw [hy.1 _ ey0] at q1
  rw [hy.2.1 _ ey1] at q1
  have ed1 := lg_35a hT q1
  rcases k1 with ⟨v1, e1, h1⟩ | ⟨E, -, z, -⟩
  rotate_left
  · exact Or.inl ⟨E, z⟩
  obtain ⟨s0, hs0⟩ := lRi ed1 rfl e1
  rw [hs0] at h1
  obtain ⟨y0', ⟨-, ey0'⟩, y1', ⟨-, ey1'⟩, L2, hL2, r2, H2, q2, k2⟩ := lb_35 ed1.1 hL1 h1
  rw [hy.1 _ ey0'] at q2
  rw [hy.2.1 _ ey1'] at q2
  have ed2 := lg_35b ed1.1 q2
  rcases k2 with ⟨v2, e2, h2⟩ | ⟨E, -, z, -⟩
  rotate_left
  · exact Or.inl ⟨E, z⟩
  obtain ⟨s1, hs1⟩ := lRi ed2 rfl e2
  rw [hs1] at h2
  obtain ⟨L3, hL3, h3⟩ := lc_35 ed2.1 hL2 h2
  exact Or.inr ⟨L3, H2, ⟨_, _, _, _, H1, q1, q2, ⟨_, e1⟩, _, e2⟩, ed2.1, hL3, h3⟩
/-- right -/
def lq_36 (y : Nat → Int32) (H H2 : mjH) : Prop := ∃ (m1 m2 : Nat) (r1 r2 : Option Value ⊕ Nat) (H1 : mjH), Pn none m1 358 0 [(0, .ref 0), (1, .int (y 1)), (2, .ref 578)] [] H r1 H1 ∧ Pn none m2 316 0 [(0, .ref 78), (1, .int (y 1))] [] H1 r2 H2 ∧ (∃ v1, r1 = .inl v1) ∧ ∃ v2, r2 = .inl v2
theorem lg_36a (hT : HT H) (q : Pn none m 358 0 [(0, .ref 0), (1, .int (y 1)), (2, .ref 578)] [] H r H') : frEd lM94 H r H' := lFr (M := lM94) (s := ([(0, .inl [0]), (1, .inr false), (2, .inl [578])], [])) lIn94 rfl (by decide +kernel) rfl (frLR_c rfl ⟨0, List.mem_singleton.mpr rfl, rfl⟩ (frLR_c rfl ⟨_, rfl⟩ (frLR_c rfl ⟨578, List.mem_singleton.mpr rfl, rfl⟩ frLR_n))) hT q
theorem lg_36b (hT : HT H) (q : Pn none m 316 0 [(0, .ref 78), (1, .int (y 1))] [] H r H') : frEd lM204 H r H' := lFr (M := lM204) (s := ([(0, .inl [78]), (1, .inr false)], [])) lIn204 rfl (by decide +kernel) rfl (frLR_c rfl ⟨78, List.mem_singleton.mpr rfl, rfl⟩ (frLR_c rfl ⟨_, rfl⟩ frLR_n)) hT q
theorem lf_36 (hT : HT H) (q : lq_36 y H H2) : HT H2 ∧ ∀ a b, frIn (lM94).2.2.1 a b = false → frIn (lM204).2.2.1 a b = false → sxEl H2 a b = sxEl H a b := by
  obtain ⟨m1, m2, r1, r2, H1, q1, q2, -⟩ := q
  have e1 := lg_36a hT q1
  have e2 := lg_36b e1.1 q2
  exact ⟨e2.1, fun a b z1 z2 => (e2.2.1 a b z2).trans (e1.2.1 a b z1)⟩
theorem ld_36 (q : lq_36 y H H2) (q' : lq_36 y H H3) : H3 = H2 := by
  obtain ⟨m1, m2, r1, r2, H1, q1, q2, -⟩ := q
  obtain ⟨m1', m2', r1', r2', H1', q1', q2', -⟩ := q'
  obtain ⟨-, e⟩ := Pn_det q1 q1'
  rw [e] at q2'
  exact (Pn_det q2 q2').2
theorem ln_36 (hT : HT H) (hL : lwL L i) (hy : lwY xs i y) (h : Pn (some xs) m 373 1464 L [] H r H') : (∃ E, r = .inr E) ∨ ∃ (L2 : mjL) (H2 : mjH), lq_36 y H H2 ∧ HT H2 ∧ lwL L2 (i + Int32.ofInt 6) ∧ Pn (some xs) m 373 23 L2 [] H2 r H' := by
  obtain ⟨y0, ⟨-, ey0⟩, L1, hL1, r1, H1, q1, k1⟩ := la_36 hT hL h
  rw [hy.1 _ ey0] at q1
  have ed1 := lg_36a hT q1
  rcases k1 with ⟨v1, e1, h1⟩ | ⟨E, -, z, -⟩
  rotate_left
  · exact Or.inl ⟨E, z⟩
  obtain ⟨s0, hs0⟩ := lRi ed1 rfl e1
  rw [hs0] at h1
  obtain ⟨y0', ⟨-, ey0'⟩, L2, hL2, r2, H2, q2, k2⟩ := lb_36 ed1.1 hL1 h1
  rw [hy.1 _ ey0'] at q2
  have ed2 := lg_36b ed1.1 q2
  rcases k2 with ⟨v2, e2, h2⟩ | ⟨E, -, z, -⟩
  rotate_left
  · exact Or.inl ⟨E, z⟩
  obtain ⟨s1, hs1⟩ := lRi ed2 rfl e2
  rw [hs1] at h2
  obtain ⟨L3, hL3, h3⟩ := lc_36 ed2.1 hL2 h2
  exact Or.inr ⟨L3, H2, ⟨_, _, _, _, H1, q1, q2, ⟨_, e1⟩, _, e2⟩, ed2.1, hL3, h3⟩
/-- killer -/
def lq_37 (y : Nat → Int32) (H H2 : mjH) : Prop := ∃ (m1 m2 : Nat) (r1 r2 : Option Value ⊕ Nat) (H1 : mjH), Pn none m1 359 0 [(0, .ref 0), (1, .int (y 1)), (2, .ref 578)] [] H r1 H1 ∧ Pn none m2 281 0 [(0, .ref 78), (1, .int (y 1))] [] H1 r2 H2 ∧ (∃ v1, r1 = .inl v1) ∧ ∃ v2, r2 = .inl v2
theorem lg_37a (hT : HT H) (q : Pn none m 359 0 [(0, .ref 0), (1, .int (y 1)), (2, .ref 578)] [] H r H') : frEd lM95 H r H' := lFr (M := lM95) (s := ([(0, .inl [0]), (1, .inr false), (2, .inl [578])], [])) lIn95 rfl (by decide +kernel) rfl (frLR_c rfl ⟨0, List.mem_singleton.mpr rfl, rfl⟩ (frLR_c rfl ⟨_, rfl⟩ (frLR_c rfl ⟨578, List.mem_singleton.mpr rfl, rfl⟩ frLR_n))) hT q
theorem lg_37b (hT : HT H) (q : Pn none m 281 0 [(0, .ref 78), (1, .int (y 1))] [] H r H') : frEd lM205 H r H' := lFr (M := lM205) (s := ([(0, .inl [78]), (1, .inr false)], [])) lIn205 rfl (by decide +kernel) rfl (frLR_c rfl ⟨78, List.mem_singleton.mpr rfl, rfl⟩ (frLR_c rfl ⟨_, rfl⟩ frLR_n)) hT q
theorem lf_37 (hT : HT H) (q : lq_37 y H H2) : HT H2 ∧ ∀ a b, frIn (lM95).2.2.1 a b = false → frIn (lM205).2.2.1 a b = false → sxEl H2 a b = sxEl H a b := by
  obtain ⟨m1, m2, r1, r2, H1, q1, q2, -⟩ := q
  have e1 := lg_37a hT q1
  have e2 := lg_37b e1.1 q2
  exact ⟨e2.1, fun a b z1 z2 => (e2.2.1 a b z2).trans (e1.2.1 a b z1)⟩
theorem ld_37 (q : lq_37 y H H2) (q' : lq_37 y H H3) : H3 = H2 := by
  obtain ⟨m1, m2, r1, r2, H1, q1, q2, -⟩ := q
  obtain ⟨m1', m2', r1', r2', H1', q1', q2', -⟩ := q'
  obtain ⟨-, e⟩ := Pn_det q1 q1'
  rw [e] at q2'
  exact (Pn_det q2 q2').2
theorem ln_37 (hT : HT H) (hL : lwL L i) (hy : lwY xs i y) (h : Pn (some xs) m 373 1492 L [] H r H') : (∃ E, r = .inr E) ∨ ∃ (L2 : mjL) (H2 : mjH), lq_37 y H H2 ∧ HT H2 ∧ lwL L2 (i + Int32.ofInt 6) ∧ Pn (some xs) m 373 23 L2 [] H2 r H' := by
  obtain ⟨y0, ⟨-, ey0⟩, L1, hL1, r1, H1, q1, k1⟩ := la_37 hT hL h
  rw [hy.1 _ ey0] at q1
  have ed1 := lg_37a hT q1
  rcases k1 with ⟨v1, e1, h1⟩ | ⟨E, -, z, -⟩
  rotate_left
  · exact Or.inl ⟨E, z⟩
  obtain ⟨s0, hs0⟩ := lRi ed1 rfl e1
  rw [hs0] at h1
  obtain ⟨y0', ⟨-, ey0'⟩, L2, hL2, r2, H2, q2, k2⟩ := lb_37 ed1.1 hL1 h1
  rw [hy.1 _ ey0'] at q2
  have ed2 := lg_37b ed1.1 q2
  rcases k2 with ⟨v2, e2, h2⟩ | ⟨E, -, z, -⟩
  rotate_left
  · exact Or.inl ⟨E, z⟩
  obtain ⟨s1, hs1⟩ := lRi ed2 rfl e2
  rw [hs1] at h2
  obtain ⟨L3, hL3, h3⟩ := lc_37 ed2.1 hL2 h2
  exact Or.inr ⟨L3, H2, ⟨_, _, _, _, H1, q1, q2, ⟨_, e1⟩, _, e2⟩, ed2.1, hL3, h3⟩
/-- together -/
def lq_38 (y : Nat → Int32) (H H2 : mjH) : Prop := ∃ (m1 m2 : Nat) (r1 r2 : Option Value ⊕ Nat) (H1 : mjH), Pn none m1 360 0 [(0, .ref 0), (1, .int (y 1)), (2, .int (y 2)), (3, .ref 578)] [] H r1 H1 ∧ Pn none m2 297 0 [(0, .ref 78), (1, .int (y 1)), (2, .int (y 2))] [] H1 r2 H2 ∧ (∃ v1, r1 = .inl v1) ∧ ∃ v2, r2 = .inl v2
theorem lg_38a (hT : HT H) (q : Pn none m 360 0 [(0, .ref 0), (1, .int (y 1)), (2, .int (y 2)), (3, .ref 578)] [] H r H') : frEd lM96 H r H' := lFr (M := lM96) (s := ([(0, .inl [0]), (1, .inr false), (2, .inr false), (3, .inl [578])], [])) lIn96 rfl (by decide +kernel) rfl (frLR_c rfl ⟨0, List.mem_singleton.mpr rfl, rfl⟩ (frLR_c rfl ⟨_, rfl⟩ (frLR_c rfl ⟨_, rfl⟩ (frLR_c rfl ⟨578, List.mem_singleton.mpr rfl, rfl⟩ frLR_n)))) hT q
theorem lg_38b (hT : HT H) (q : Pn none m 297 0 [(0, .ref 78), (1, .int (y 1)), (2, .int (y 2))] [] H r H') : frEd lM206 H r H' := lFr (M := lM206) (s := ([(0, .inl [78]), (1, .inr false), (2, .inr false)], [])) lIn206 rfl (by decide +kernel) rfl (frLR_c rfl ⟨78, List.mem_singleton.mpr rfl, rfl⟩ (frLR_c rfl ⟨_, rfl⟩ (frLR_c rfl ⟨_, rfl⟩ frLR_n))) hT q
theorem lf_38 (hT : HT H) (q : lq_38 y H H2) : HT H2 ∧ ∀ a b, frIn (lM96).2.2.1 a b = false → frIn (lM206).2.2.1 a b = false → sxEl H2 a b = sxEl H a b := by
  obtain ⟨m1, m2, r1, r2, H1, q1, q2, -⟩ := q
  have e1 := lg_38a hT q1
  have e2 := lg_38b e1.1 q2
  exact ⟨e2.1, fun a b z1 z2 => (e2.2.1 a b z2).trans (e1.2.1 a b z1)⟩
theorem ld_38 (q : lq_38 y H H2) (q' : lq_38 y H H3) : H3 = H2 := by
  obtain ⟨m1, m2, r1, r2, H1, q1, q2, -⟩ := q
  obtain ⟨m1', m2', r1', r2', H1', q1', q2', -⟩ := q'
  obtain ⟨-, e⟩ := Pn_det q1 q1'
  rw [e] at q2'
  exact (Pn_det q2 q2').2
theorem ln_38 (hT : HT H) (hL : lwL L i) (hy : lwY xs i y) (h : Pn (some xs) m 373 1520 L [] H r H') : (∃ E, r = .inr E) ∨ ∃ (L2 : mjL) (H2 : mjH), lq_38 y H H2 ∧ HT H2 ∧ lwL L2 (i + Int32.ofInt 6) ∧ Pn (some xs) m 373 23 L2 [] H2 r H' := by
  obtain ⟨y0, ⟨-, ey0⟩, y1, ⟨-, ey1⟩, L1, hL1, r1, H1, q1, k1⟩ := la_38 hT hL h
  rw [hy.1 _ ey0] at q1
  rw [hy.2.1 _ ey1] at q1
  have ed1 := lg_38a hT q1
  rcases k1 with ⟨v1, e1, h1⟩ | ⟨E, -, z, -⟩
  rotate_left
  · exact Or.inl ⟨E, z⟩
  obtain ⟨s0, hs0⟩ := lRi ed1 rfl e1
  rw [hs0] at h1
  obtain ⟨y0', ⟨-, ey0'⟩, y1', ⟨-, ey1'⟩, L2, hL2, r2, H2, q2, k2⟩ := lb_38 ed1.1 hL1 h1
  rw [hy.1 _ ey0'] at q2
  rw [hy.2.1 _ ey1'] at q2
  have ed2 := lg_38b ed1.1 q2
  rcases k2 with ⟨v2, e2, h2⟩ | ⟨E, -, z, -⟩
  rotate_left
  · exact Or.inl ⟨E, z⟩
  obtain ⟨s1, hs1⟩ := lRl ed2 rfl e2
  rw [hs1] at h2
  obtain ⟨L3, hL3, h3⟩ := lc_38 ed2.1 hL2 h2
  exact Or.inr ⟨L3, H2, ⟨_, _, _, _, H1, q1, q2, ⟨_, e1⟩, _, e2⟩, ed2.1, hL3, h3⟩
/-- following -/
def lq_39 (y : Nat → Int32) (H H2 : mjH) : Prop := ∃ (m1 m2 : Nat) (r1 r2 : Option Value ⊕ Nat) (H1 : mjH), Pn none m1 361 0 [(0, .ref 0), (1, .int (y 1)), (2, .int (y 2)), (3, .ref 578)] [] H r1 H1 ∧ Pn none m2 299 0 [(0, .ref 78), (1, .int (y 1)), (2, .int (y 2))] [] H1 r2 H2 ∧ (∃ v1, r1 = .inl v1) ∧ ∃ v2, r2 = .inl v2
theorem lg_39a (hT : HT H) (q : Pn none m 361 0 [(0, .ref 0), (1, .int (y 1)), (2, .int (y 2)), (3, .ref 578)] [] H r H') : frEd lM97 H r H' := lFr (M := lM97) (s := ([(0, .inl [0]), (1, .inr false), (2, .inr false), (3, .inl [578])], [])) lIn97 rfl (by decide +kernel) rfl (frLR_c rfl ⟨0, List.mem_singleton.mpr rfl, rfl⟩ (frLR_c rfl ⟨_, rfl⟩ (frLR_c rfl ⟨_, rfl⟩ (frLR_c rfl ⟨578, List.mem_singleton.mpr rfl, rfl⟩ frLR_n)))) hT q
theorem lg_39b (hT : HT H) (q : Pn none m 299 0 [(0, .ref 78), (1, .int (y 1)), (2, .int (y 2))] [] H r H') : frEd lM207 H r H' := lFr (M := lM207) (s := ([(0, .inl [78]), (1, .inr false), (2, .inr false)], [])) lIn207 rfl (by decide +kernel) rfl (frLR_c rfl ⟨78, List.mem_singleton.mpr rfl, rfl⟩ (frLR_c rfl ⟨_, rfl⟩ (frLR_c rfl ⟨_, rfl⟩ frLR_n))) hT q
theorem lf_39 (hT : HT H) (q : lq_39 y H H2) : HT H2 ∧ ∀ a b, frIn (lM97).2.2.1 a b = false → frIn (lM207).2.2.1 a b = false → sxEl H2 a b = sxEl H a b := by
  obtain ⟨m1, m2, r1, r2, H1, q1, q2, -⟩ := q
  have e1 := lg_39a hT q1
  have e2 := lg_39b e1.1 q2
  exact ⟨e2.1, fun a b z1 z2 => (e2.2.1 a b z2).trans (e1.2.1 a b z1)⟩
theorem ld_39 (q : lq_39 y H H2) (q' : lq_39 y H H3) : H3 = H2 := by
  obtain ⟨m1, m2, r1, r2, H1, q1, q2, -⟩ := q
  obtain ⟨m1', m2', r1', r2', H1', q1', q2', -⟩ := q'
  obtain ⟨-, e⟩ := Pn_det q1 q1'
  rw [e] at q2'
  exact (Pn_det q2 q2').2
theorem ln_39 (hT : HT H) (hL : lwL L i) (hy : lwY xs i y) (h : Pn (some xs) m 373 1560 L [] H r H') : (∃ E, r = .inr E) ∨ ∃ (L2 : mjL) (H2 : mjH), lq_39 y H H2 ∧ HT H2 ∧ lwL L2 (i + Int32.ofInt 6) ∧ Pn (some xs) m 373 23 L2 [] H2 r H' := by
  obtain ⟨y0, ⟨-, ey0⟩, y1, ⟨-, ey1⟩, L1, hL1, r1, H1, q1, k1⟩ := la_39 hT hL h
  rw [hy.1 _ ey0] at q1
  rw [hy.2.1 _ ey1] at q1
  have ed1 := lg_39a hT q1
  rcases k1 with ⟨v1, e1, h1⟩ | ⟨E, -, z, -⟩
  rotate_left
  · exact Or.inl ⟨E, z⟩
  obtain ⟨s0, hs0⟩ := lRi ed1 rfl e1
  rw [hs0] at h1
  obtain ⟨y0', ⟨-, ey0'⟩, y1', ⟨-, ey1'⟩, L2, hL2, r2, H2, q2, k2⟩ := lb_39 ed1.1 hL1 h1
  rw [hy.1 _ ey0'] at q2
  rw [hy.2.1 _ ey1'] at q2
  have ed2 := lg_39b ed1.1 q2
  rcases k2 with ⟨v2, e2, h2⟩ | ⟨E, -, z, -⟩
  rotate_left
  · exact Or.inl ⟨E, z⟩
  obtain ⟨s1, hs1⟩ := lRi ed2 rfl e2
  rw [hs1] at h2
  obtain ⟨L3, hL3, h3⟩ := lc_39 ed2.1 hL2 h2
  exact Or.inr ⟨L3, H2, ⟨_, _, _, _, H1, q1, q2, ⟨_, e1⟩, _, e2⟩, ed2.1, hL3, h3⟩
/-- eldest -/
def lq_40 (y : Nat → Int32) (H H2 : mjH) : Prop := ∃ (m1 m2 : Nat) (r1 r2 : Option Value ⊕ Nat) (H1 : mjH), Pn none m1 362 0 [(0, .ref 0), (1, .int (y 1)), (2, .ref 578)] [] H r1 H1 ∧ Pn none m2 273 0 [(0, .ref 78), (1, .int (y 1))] [] H1 r2 H2 ∧ (∃ v1, r1 = .inl v1) ∧ ∃ v2, r2 = .inl v2
theorem lg_40a (hT : HT H) (q : Pn none m 362 0 [(0, .ref 0), (1, .int (y 1)), (2, .ref 578)] [] H r H') : frEd lM98 H r H' := lFr (M := lM98) (s := ([(0, .inl [0]), (1, .inr false), (2, .inl [578])], [])) lIn98 rfl (by decide +kernel) rfl (frLR_c rfl ⟨0, List.mem_singleton.mpr rfl, rfl⟩ (frLR_c rfl ⟨_, rfl⟩ (frLR_c rfl ⟨578, List.mem_singleton.mpr rfl, rfl⟩ frLR_n))) hT q
theorem lg_40b (hT : HT H) (q : Pn none m 273 0 [(0, .ref 78), (1, .int (y 1))] [] H r H') : frEd lM208 H r H' := lFr (M := lM208) (s := ([(0, .inl [78]), (1, .inr false)], [])) lIn208 rfl (by decide +kernel) rfl (frLR_c rfl ⟨78, List.mem_singleton.mpr rfl, rfl⟩ (frLR_c rfl ⟨_, rfl⟩ frLR_n)) hT q
theorem lf_40 (hT : HT H) (q : lq_40 y H H2) : HT H2 ∧ ∀ a b, frIn (lM98).2.2.1 a b = false → frIn (lM208).2.2.1 a b = false → sxEl H2 a b = sxEl H a b := by
  obtain ⟨m1, m2, r1, r2, H1, q1, q2, -⟩ := q
  have e1 := lg_40a hT q1
  have e2 := lg_40b e1.1 q2
  exact ⟨e2.1, fun a b z1 z2 => (e2.2.1 a b z2).trans (e1.2.1 a b z1)⟩
theorem ld_40 (q : lq_40 y H H2) (q' : lq_40 y H H3) : H3 = H2 := by
  obtain ⟨m1, m2, r1, r2, H1, q1, q2, -⟩ := q
  obtain ⟨m1', m2', r1', r2', H1', q1', q2', -⟩ := q'
  obtain ⟨-, e⟩ := Pn_det q1 q1'
  rw [e] at q2'
  exact (Pn_det q2 q2').2
theorem ln_40 (hT : HT H) (hL : lwL L i) (hy : lwY xs i y) (h : Pn (some xs) m 373 1600 L [] H r H') : (∃ E, r = .inr E) ∨ ∃ (L2 : mjL) (H2 : mjH), lq_40 y H H2 ∧ HT H2 ∧ lwL L2 (i + Int32.ofInt 6) ∧ Pn (some xs) m 373 23 L2 [] H2 r H' := by
  obtain ⟨y0, ⟨-, ey0⟩, L1, hL1, r1, H1, q1, k1⟩ := la_40 hT hL h
  rw [hy.1 _ ey0] at q1
  have ed1 := lg_40a hT q1
  rcases k1 with ⟨v1, e1, h1⟩ | ⟨E, -, z, -⟩
  rotate_left
  · exact Or.inl ⟨E, z⟩
  obtain ⟨s0, hs0⟩ := lRi ed1 rfl e1
  rw [hs0] at h1
  obtain ⟨y0', ⟨-, ey0'⟩, L2, hL2, r2, H2, q2, k2⟩ := lb_40 ed1.1 hL1 h1
  rw [hy.1 _ ey0'] at q2
  have ed2 := lg_40b ed1.1 q2
  rcases k2 with ⟨v2, e2, h2⟩ | ⟨E, -, z, -⟩
  rotate_left
  · exact Or.inl ⟨E, z⟩
  obtain ⟨s1, hs1⟩ := lRi ed2 rfl e2
  rw [hs1] at h2
  obtain ⟨L3, hL3, h3⟩ := lc_40 ed2.1 hL2 h2
  exact Or.inr ⟨L3, H2, ⟨_, _, _, _, H1, q1, q2, ⟨_, e1⟩, _, e2⟩, ed2.1, hL3, h3⟩
/-- quarrels -/
def lq_41 (y : Nat → Int32) (H H2 : mjH) : Prop := ∃ (m1 m2 : Nat) (r1 r2 : Option Value ⊕ Nat) (H1 : mjH), Pn none m1 363 0 [(0, .ref 0), (1, .int (y 1)), (2, .ref 578)] [] H r1 H1 ∧ Pn none m2 308 0 [(0, .ref 78), (1, .int (y 1))] [] H1 r2 H2 ∧ (∃ v1, r1 = .inl v1) ∧ ∃ v2, r2 = .inl v2
theorem lg_41a (hT : HT H) (q : Pn none m 363 0 [(0, .ref 0), (1, .int (y 1)), (2, .ref 578)] [] H r H') : frEd lM99 H r H' := lFr (M := lM99) (s := ([(0, .inl [0]), (1, .inr false), (2, .inl [578])], [])) lIn99 rfl (by decide +kernel) rfl (frLR_c rfl ⟨0, List.mem_singleton.mpr rfl, rfl⟩ (frLR_c rfl ⟨_, rfl⟩ (frLR_c rfl ⟨578, List.mem_singleton.mpr rfl, rfl⟩ frLR_n))) hT q
theorem lg_41b (hT : HT H) (q : Pn none m 308 0 [(0, .ref 78), (1, .int (y 1))] [] H r H') : frEd lM209 H r H' := lFr (M := lM209) (s := ([(0, .inl [78]), (1, .inr false)], [])) lIn209 rfl (by decide +kernel) rfl (frLR_c rfl ⟨78, List.mem_singleton.mpr rfl, rfl⟩ (frLR_c rfl ⟨_, rfl⟩ frLR_n)) hT q
theorem lf_41 (hT : HT H) (q : lq_41 y H H2) : HT H2 ∧ ∀ a b, frIn (lM99).2.2.1 a b = false → frIn (lM209).2.2.1 a b = false → sxEl H2 a b = sxEl H a b := by
  obtain ⟨m1, m2, r1, r2, H1, q1, q2, -⟩ := q
  have e1 := lg_41a hT q1
  have e2 := lg_41b e1.1 q2
  exact ⟨e2.1, fun a b z1 z2 => (e2.2.1 a b z2).trans (e1.2.1 a b z1)⟩
theorem ld_41 (q : lq_41 y H H2) (q' : lq_41 y H H3) : H3 = H2 := by
  obtain ⟨m1, m2, r1, r2, H1, q1, q2, -⟩ := q
  obtain ⟨m1', m2', r1', r2', H1', q1', q2', -⟩ := q'
  obtain ⟨-, e⟩ := Pn_det q1 q1'
  rw [e] at q2'
  exact (Pn_det q2 q2').2
theorem ln_41 (hT : HT H) (hL : lwL L i) (hy : lwY xs i y) (h : Pn (some xs) m 373 1628 L [] H r H') : (∃ E, r = .inr E) ∨ ∃ (L2 : mjL) (H2 : mjH), lq_41 y H H2 ∧ HT H2 ∧ lwL L2 (i + Int32.ofInt 6) ∧ Pn (some xs) m 373 23 L2 [] H2 r H' := by
  obtain ⟨y0, ⟨-, ey0⟩, L1, hL1, r1, H1, q1, k1⟩ := la_41 hT hL h
  rw [hy.1 _ ey0] at q1
  have ed1 := lg_41a hT q1
  rcases k1 with ⟨v1, e1, h1⟩ | ⟨E, -, z, -⟩
  rotate_left
  · exact Or.inl ⟨E, z⟩
  obtain ⟨s0, hs0⟩ := lRi ed1 rfl e1
  rw [hs0] at h1
  obtain ⟨y0', ⟨-, ey0'⟩, L2, hL2, r2, H2, q2, k2⟩ := lb_41 ed1.1 hL1 h1
  rw [hy.1 _ ey0'] at q2
  have ed2 := lg_41b ed1.1 q2
  rcases k2 with ⟨v2, e2, h2⟩ | ⟨E, -, z, -⟩
  rotate_left
  · exact Or.inl ⟨E, z⟩
  obtain ⟨s1, hs1⟩ := lRi ed2 rfl e2
  rw [hs1] at h2
  obtain ⟨L3, hL3, h3⟩ := lc_41 ed2.1 hL2 h2
  exact Or.inr ⟨L3, H2, ⟨_, _, _, _, H1, q1, q2, ⟨_, e1⟩, _, e2⟩, ed2.1, hL3, h3⟩
/-- peace -/
def lq_42 (y : Nat → Int32) (H H2 : mjH) : Prop := ∃ (m1 m2 : Nat) (r1 r2 : Option Value ⊕ Nat) (H1 : mjH), Pn none m1 364 0 [(0, .ref 0), (1, .int (y 1)), (2, .ref 578)] [] H r1 H1 ∧ Pn none m2 309 0 [(0, .ref 78), (1, .int (y 1))] [] H1 r2 H2 ∧ (∃ v1, r1 = .inl v1) ∧ ∃ v2, r2 = .inl v2
theorem lg_42a (hT : HT H) (q : Pn none m 364 0 [(0, .ref 0), (1, .int (y 1)), (2, .ref 578)] [] H r H') : frEd lM100 H r H' := lFr (M := lM100) (s := ([(0, .inl [0]), (1, .inr false), (2, .inl [578])], [])) lIn100 rfl (by decide +kernel) rfl (frLR_c rfl ⟨0, List.mem_singleton.mpr rfl, rfl⟩ (frLR_c rfl ⟨_, rfl⟩ (frLR_c rfl ⟨578, List.mem_singleton.mpr rfl, rfl⟩ frLR_n))) hT q
theorem lg_42b (hT : HT H) (q : Pn none m 309 0 [(0, .ref 78), (1, .int (y 1))] [] H r H') : frEd lM210 H r H' := lFr (M := lM210) (s := ([(0, .inl [78]), (1, .inr false)], [])) lIn210 rfl (by decide +kernel) rfl (frLR_c rfl ⟨78, List.mem_singleton.mpr rfl, rfl⟩ (frLR_c rfl ⟨_, rfl⟩ frLR_n)) hT q
theorem lf_42 (hT : HT H) (q : lq_42 y H H2) : HT H2 ∧ ∀ a b, frIn (lM100).2.2.1 a b = false → frIn (lM210).2.2.1 a b = false → sxEl H2 a b = sxEl H a b := by
  obtain ⟨m1, m2, r1, r2, H1, q1, q2, -⟩ := q
  have e1 := lg_42a hT q1
  have e2 := lg_42b e1.1 q2
  exact ⟨e2.1, fun a b z1 z2 => (e2.2.1 a b z2).trans (e1.2.1 a b z1)⟩
theorem ld_42 (q : lq_42 y H H2) (q' : lq_42 y H H3) : H3 = H2 := by
  obtain ⟨m1, m2, r1, r2, H1, q1, q2, -⟩ := q
  obtain ⟨m1', m2', r1', r2', H1', q1', q2', -⟩ := q'
  obtain ⟨-, e⟩ := Pn_det q1 q1'
  rw [e] at q2'
  exact (Pn_det q2 q2').2
theorem ln_42 (hT : HT H) (hL : lwL L i) (hy : lwY xs i y) (h : Pn (some xs) m 373 1656 L [] H r H') : (∃ E, r = .inr E) ∨ ∃ (L2 : mjL) (H2 : mjH), lq_42 y H H2 ∧ HT H2 ∧ lwL L2 (i + Int32.ofInt 6) ∧ Pn (some xs) m 373 23 L2 [] H2 r H' := by
  obtain ⟨y0, ⟨-, ey0⟩, L1, hL1, r1, H1, q1, k1⟩ := la_42 hT hL h
  rw [hy.1 _ ey0] at q1
  have ed1 := lg_42a hT q1
  rcases k1 with ⟨v1, e1, h1⟩ | ⟨E, -, z, -⟩
  rotate_left
  · exact Or.inl ⟨E, z⟩
  obtain ⟨s0, hs0⟩ := lRi ed1 rfl e1
  rw [hs0] at h1
  obtain ⟨y0', ⟨-, ey0'⟩, L2, hL2, r2, H2, q2, k2⟩ := lb_42 ed1.1 hL1 h1
  rw [hy.1 _ ey0'] at q2
  have ed2 := lg_42b ed1.1 q2
  rcases k2 with ⟨v2, e2, h2⟩ | ⟨E, -, z, -⟩
  rotate_left
  · exact Or.inl ⟨E, z⟩
  obtain ⟨s1, hs1⟩ := lRi ed2 rfl e2
  rw [hs1] at h2
  obtain ⟨L3, hL3, h3⟩ := lc_42 ed2.1 hL2 h2
  exact Or.inr ⟨L3, H2, ⟨_, _, _, _, H1, q1, q2, ⟨_, e1⟩, _, e2⟩, ed2.1, hL3, h3⟩
/-- worst -/
def lq_43 (y : Nat → Int32) (H H2 : mjH) : Prop := ∃ (m1 m2 : Nat) (r1 r2 : Option Value ⊕ Nat) (H1 : mjH), Pn none m1 365 0 [(0, .ref 0), (1, .int (y 1)), (2, .ref 578)] [] H r1 H1 ∧ Pn none m2 290 0 [(0, .ref 78), (1, .int (y 1))] [] H1 r2 H2 ∧ (∃ v1, r1 = .inl v1) ∧ ∃ v2, r2 = .inl v2
theorem lg_43a (hT : HT H) (q : Pn none m 365 0 [(0, .ref 0), (1, .int (y 1)), (2, .ref 578)] [] H r H') : frEd lM101 H r H' := lFr (M := lM101) (s := ([(0, .inl [0]), (1, .inr false), (2, .inl [578])], [])) lIn101 rfl (by decide +kernel) rfl (frLR_c rfl ⟨0, List.mem_singleton.mpr rfl, rfl⟩ (frLR_c rfl ⟨_, rfl⟩ (frLR_c rfl ⟨578, List.mem_singleton.mpr rfl, rfl⟩ frLR_n))) hT q
theorem lg_43b (hT : HT H) (q : Pn none m 290 0 [(0, .ref 78), (1, .int (y 1))] [] H r H') : frEd lM211 H r H' := lFr (M := lM211) (s := ([(0, .inl [78]), (1, .inr false)], [])) lIn211 rfl (by decide +kernel) rfl (frLR_c rfl ⟨78, List.mem_singleton.mpr rfl, rfl⟩ (frLR_c rfl ⟨_, rfl⟩ frLR_n)) hT q
theorem lf_43 (hT : HT H) (q : lq_43 y H H2) : HT H2 ∧ ∀ a b, frIn (lM101).2.2.1 a b = false → frIn (lM211).2.2.1 a b = false → sxEl H2 a b = sxEl H a b := by
  obtain ⟨m1, m2, r1, r2, H1, q1, q2, -⟩ := q
  have e1 := lg_43a hT q1
  have e2 := lg_43b e1.1 q2
  exact ⟨e2.1, fun a b z1 z2 => (e2.2.1 a b z2).trans (e1.2.1 a b z1)⟩
theorem ld_43 (q : lq_43 y H H2) (q' : lq_43 y H H3) : H3 = H2 := by
  obtain ⟨m1, m2, r1, r2, H1, q1, q2, -⟩ := q
  obtain ⟨m1', m2', r1', r2', H1', q1', q2', -⟩ := q'
  obtain ⟨-, e⟩ := Pn_det q1 q1'
  rw [e] at q2'
  exact (Pn_det q2 q2').2
theorem ln_43 (hT : HT H) (hL : lwL L i) (hy : lwY xs i y) (h : Pn (some xs) m 373 1684 L [] H r H') : (∃ E, r = .inr E) ∨ ∃ (L2 : mjL) (H2 : mjH), lq_43 y H H2 ∧ HT H2 ∧ lwL L2 (i + Int32.ofInt 6) ∧ Pn (some xs) m 373 23 L2 [] H2 r H' := by
  obtain ⟨y0, ⟨-, ey0⟩, L1, hL1, r1, H1, q1, k1⟩ := la_43 hT hL h
  rw [hy.1 _ ey0] at q1
  have ed1 := lg_43a hT q1
  rcases k1 with ⟨v1, e1, h1⟩ | ⟨E, -, z, -⟩
  rotate_left
  · exact Or.inl ⟨E, z⟩
  obtain ⟨s0, hs0⟩ := lRi ed1 rfl e1
  rw [hs0] at h1
  obtain ⟨y0', ⟨-, ey0'⟩, L2, hL2, r2, H2, q2, k2⟩ := lb_43 ed1.1 hL1 h1
  rw [hy.1 _ ey0'] at q2
  have ed2 := lg_43b ed1.1 q2
  rcases k2 with ⟨v2, e2, h2⟩ | ⟨E, -, z, -⟩
  rotate_left
  · exact Or.inl ⟨E, z⟩
  obtain ⟨s1, hs1⟩ := lRl ed2 rfl e2
  rw [hs1] at h2
  obtain ⟨L3, hL3, h3⟩ := lc_43 ed2.1 hL2 h2
  exact Or.inr ⟨L3, H2, ⟨_, _, _, _, H1, q1, q2, ⟨_, e1⟩, _, e2⟩, ed2.1, hL3, h3⟩
/-- century -/
def lq_44 (y : Nat → Int32) (H H2 : mjH) : Prop := ∃ (m1 m2 : Nat) (r1 r2 : Option Value ⊕ Nat) (H1 : mjH), Pn none m1 366 0 [(0, .ref 0), (1, .int (y 1)), (2, .int (y 2)), (3, .int (y 3)), (4, .ref 578)] [] H r1 H1 ∧ Pn none m2 294 0 [(0, .ref 78), (1, .int (y 1)), (2, .int (y 2)), (3, .int (y 3))] [] H1 r2 H2 ∧ (∃ v1, r1 = .inl v1) ∧ ∃ v2, r2 = .inl v2
theorem lg_44a (hT : HT H) (q : Pn none m 366 0 [(0, .ref 0), (1, .int (y 1)), (2, .int (y 2)), (3, .int (y 3)), (4, .ref 578)] [] H r H') : frEd lM102 H r H' := lFr (M := lM102) (s := ([(0, .inl [0]), (1, .inr false), (2, .inr false), (3, .inr false), (4, .inl [578])], [])) lIn102 rfl (by decide +kernel) rfl (frLR_c rfl ⟨0, List.mem_singleton.mpr rfl, rfl⟩ (frLR_c rfl ⟨_, rfl⟩ (frLR_c rfl ⟨_, rfl⟩ (frLR_c rfl ⟨_, rfl⟩ (frLR_c rfl ⟨578, List.mem_singleton.mpr rfl, rfl⟩ frLR_n))))) hT q
theorem lg_44b (hT : HT H) (q : Pn none m 294 0 [(0, .ref 78), (1, .int (y 1)), (2, .int (y 2)), (3, .int (y 3))] [] H r H') : frEd lM212 H r H' := lFr (M := lM212) (s := ([(0, .inl [78]), (1, .inr false), (2, .inr false), (3, .inr false)], [])) lIn212 rfl (by decide +kernel) rfl (frLR_c rfl ⟨78, List.mem_singleton.mpr rfl, rfl⟩ (frLR_c rfl ⟨_, rfl⟩ (frLR_c rfl ⟨_, rfl⟩ (frLR_c rfl ⟨_, rfl⟩ frLR_n)))) hT q
theorem lf_44 (hT : HT H) (q : lq_44 y H H2) : HT H2 ∧ ∀ a b, frIn (lM102).2.2.1 a b = false → frIn (lM212).2.2.1 a b = false → sxEl H2 a b = sxEl H a b := by
  obtain ⟨m1, m2, r1, r2, H1, q1, q2, -⟩ := q
  have e1 := lg_44a hT q1
  have e2 := lg_44b e1.1 q2
  exact ⟨e2.1, fun a b z1 z2 => (e2.2.1 a b z2).trans (e1.2.1 a b z1)⟩
theorem ld_44 (q : lq_44 y H H2) (q' : lq_44 y H H3) : H3 = H2 := by
  obtain ⟨m1, m2, r1, r2, H1, q1, q2, -⟩ := q
  obtain ⟨m1', m2', r1', r2', H1', q1', q2', -⟩ := q'
  obtain ⟨-, e⟩ := Pn_det q1 q1'
  rw [e] at q2'
  exact (Pn_det q2 q2').2
theorem ln_44 (hT : HT H) (hL : lwL L i) (hy : lwY xs i y) (h : Pn (some xs) m 373 1712 L [] H r H') : (∃ E, r = .inr E) ∨ ∃ (L2 : mjL) (H2 : mjH), lq_44 y H H2 ∧ HT H2 ∧ lwL L2 (i + Int32.ofInt 6) ∧ Pn (some xs) m 373 23 L2 [] H2 r H' := by
  obtain ⟨y0, ⟨-, ey0⟩, y1, ⟨-, ey1⟩, y2, ⟨-, ey2⟩, L1, hL1, r1, H1, q1, k1⟩ := la_44 hT hL h
  rw [hy.1 _ ey0] at q1
  rw [hy.2.1 _ ey1] at q1
  rw [hy.2.2.1 _ ey2] at q1
  have ed1 := lg_44a hT q1
  rcases k1 with ⟨v1, e1, h1⟩ | ⟨E, -, z, -⟩
  rotate_left
  · exact Or.inl ⟨E, z⟩
  obtain ⟨s0, hs0⟩ := lRi ed1 rfl e1
  rw [hs0] at h1
  obtain ⟨y0', ⟨-, ey0'⟩, y1', ⟨-, ey1'⟩, y2', ⟨-, ey2'⟩, L2, hL2, r2, H2, q2, k2⟩ := lb_44 ed1.1 hL1 h1
  rw [hy.1 _ ey0'] at q2
  rw [hy.2.1 _ ey1'] at q2
  rw [hy.2.2.1 _ ey2'] at q2
  have ed2 := lg_44b ed1.1 q2
  rcases k2 with ⟨v2, e2, h2⟩ | ⟨E, -, z, -⟩
  rotate_left
  · exact Or.inl ⟨E, z⟩
  obtain ⟨s1, hs1⟩ := lRi ed2 rfl e2
  rw [hs1] at h2
  obtain ⟨L3, hL3, h3⟩ := lc_44 ed2.1 hL2 h2
  exact Or.inr ⟨L3, H2, ⟨_, _, _, _, H1, q1, q2, ⟨_, e1⟩, _, e2⟩, ed2.1, hL3, h3⟩
/-- known -/
def lq_45 (y : Nat → Int32) (H H2 : mjH) : Prop := ∃ (m1 m2 : Nat) (r1 r2 : Option Value ⊕ Nat) (H1 : mjH), Pn none m1 367 0 [(0, .ref 0), (1, .int (y 1)), (2, .int (y 2)), (3, .ref 578)] [] H r1 H1 ∧ Pn none m2 306 0 [(0, .ref 78), (1, .int (y 1)), (2, .int (y 2))] [] H1 r2 H2 ∧ (∃ v1, r1 = .inl v1) ∧ ∃ v2, r2 = .inl v2
theorem lg_45a (hT : HT H) (q : Pn none m 367 0 [(0, .ref 0), (1, .int (y 1)), (2, .int (y 2)), (3, .ref 578)] [] H r H') : frEd lM103 H r H' := lFr (M := lM103) (s := ([(0, .inl [0]), (1, .inr false), (2, .inr false), (3, .inl [578])], [])) lIn103 rfl (by decide +kernel) rfl (frLR_c rfl ⟨0, List.mem_singleton.mpr rfl, rfl⟩ (frLR_c rfl ⟨_, rfl⟩ (frLR_c rfl ⟨_, rfl⟩ (frLR_c rfl ⟨578, List.mem_singleton.mpr rfl, rfl⟩ frLR_n)))) hT q
theorem lg_45b (hT : HT H) (q : Pn none m 306 0 [(0, .ref 78), (1, .int (y 1)), (2, .int (y 2))] [] H r H') : frEd lM213 H r H' := lFr (M := lM213) (s := ([(0, .inl [78]), (1, .inr false), (2, .inr false)], [])) lIn213 rfl (by decide +kernel) rfl (frLR_c rfl ⟨78, List.mem_singleton.mpr rfl, rfl⟩ (frLR_c rfl ⟨_, rfl⟩ (frLR_c rfl ⟨_, rfl⟩ frLR_n))) hT q
theorem lf_45 (hT : HT H) (q : lq_45 y H H2) : HT H2 ∧ ∀ a b, frIn (lM103).2.2.1 a b = false → frIn (lM213).2.2.1 a b = false → sxEl H2 a b = sxEl H a b := by
  obtain ⟨m1, m2, r1, r2, H1, q1, q2, -⟩ := q
  have e1 := lg_45a hT q1
  have e2 := lg_45b e1.1 q2
  exact ⟨e2.1, fun a b z1 z2 => (e2.2.1 a b z2).trans (e1.2.1 a b z1)⟩
theorem ld_45 (q : lq_45 y H H2) (q' : lq_45 y H H3) : H3 = H2 := by
  obtain ⟨m1, m2, r1, r2, H1, q1, q2, -⟩ := q
  obtain ⟨m1', m2', r1', r2', H1', q1', q2', -⟩ := q'
  obtain ⟨-, e⟩ := Pn_det q1 q1'
  rw [e] at q2'
  exact (Pn_det q2 q2').2
theorem ln_45 (hT : HT H) (hL : lwL L i) (hy : lwY xs i y) (h : Pn (some xs) m 373 1764 L [] H r H') : (∃ E, r = .inr E) ∨ ∃ (L2 : mjL) (H2 : mjH), lq_45 y H H2 ∧ HT H2 ∧ lwL L2 (i + Int32.ofInt 6) ∧ Pn (some xs) m 373 23 L2 [] H2 r H' := by
  obtain ⟨y0, ⟨-, ey0⟩, y1, ⟨-, ey1⟩, L1, hL1, r1, H1, q1, k1⟩ := la_45 hT hL h
  rw [hy.1 _ ey0] at q1
  rw [hy.2.1 _ ey1] at q1
  have ed1 := lg_45a hT q1
  rcases k1 with ⟨v1, e1, h1⟩ | ⟨E, -, z, -⟩
  rotate_left
  · exact Or.inl ⟨E, z⟩
  obtain ⟨s0, hs0⟩ := lRi ed1 rfl e1
  rw [hs0] at h1
  obtain ⟨y0', ⟨-, ey0'⟩, y1', ⟨-, ey1'⟩, L2, hL2, r2, H2, q2, k2⟩ := lb_45 ed1.1 hL1 h1
  rw [hy.1 _ ey0'] at q2
  rw [hy.2.1 _ ey1'] at q2
  have ed2 := lg_45b ed1.1 q2
  rcases k2 with ⟨v2, e2, h2⟩ | ⟨E, -, z, -⟩
  rotate_left
  · exact Or.inl ⟨E, z⟩
  obtain ⟨s1, hs1⟩ := lRi ed2 rfl e2
  rw [hs1] at h2
  obtain ⟨L3, hL3, h3⟩ := lc_45 ed2.1 hL2 h2
  exact Or.inr ⟨L3, H2, ⟨_, _, _, _, H1, q1, q2, ⟨_, e1⟩, _, e2⟩, ed2.1, hL3, h3⟩
/-- plain -/
def lq_46 (y : Nat → Int32) (H H2 : mjH) : Prop := ∃ (m1 m2 : Nat) (r1 r2 : Option Value ⊕ Nat) (H1 : mjH), Pn none m1 368 0 [(0, .ref 0), (1, .int (y 1)), (2, .ref 578)] [] H r1 H1 ∧ Pn none m2 320 0 [(0, .ref 78), (1, .int (y 1))] [] H1 r2 H2 ∧ (∃ v1, r1 = .inl v1) ∧ ∃ v2, r2 = .inl v2
theorem lg_46a (hT : HT H) (q : Pn none m 368 0 [(0, .ref 0), (1, .int (y 1)), (2, .ref 578)] [] H r H') : frEd lM104 H r H' := lFr (M := lM104) (s := ([(0, .inl [0]), (1, .inr false), (2, .inl [578])], [])) lIn104 rfl (by decide +kernel) rfl (frLR_c rfl ⟨0, List.mem_singleton.mpr rfl, rfl⟩ (frLR_c rfl ⟨_, rfl⟩ (frLR_c rfl ⟨578, List.mem_singleton.mpr rfl, rfl⟩ frLR_n))) hT q
theorem lg_46b (hT : HT H) (q : Pn none m 320 0 [(0, .ref 78), (1, .int (y 1))] [] H r H') : frEd lM214 H r H' := lFr (M := lM214) (s := ([(0, .inl [78]), (1, .inr false)], [])) lIn214 rfl (by decide +kernel) rfl (frLR_c rfl ⟨78, List.mem_singleton.mpr rfl, rfl⟩ (frLR_c rfl ⟨_, rfl⟩ frLR_n)) hT q
theorem lf_46 (hT : HT H) (q : lq_46 y H H2) : HT H2 ∧ ∀ a b, frIn (lM104).2.2.1 a b = false → frIn (lM214).2.2.1 a b = false → sxEl H2 a b = sxEl H a b := by
  obtain ⟨m1, m2, r1, r2, H1, q1, q2, -⟩ := q
  have e1 := lg_46a hT q1
  have e2 := lg_46b e1.1 q2
  exact ⟨e2.1, fun a b z1 z2 => (e2.2.1 a b z2).trans (e1.2.1 a b z1)⟩
theorem ld_46 (q : lq_46 y H H2) (q' : lq_46 y H H3) : H3 = H2 := by
  obtain ⟨m1, m2, r1, r2, H1, q1, q2, -⟩ := q
  obtain ⟨m1', m2', r1', r2', H1', q1', q2', -⟩ := q'
  obtain ⟨-, e⟩ := Pn_det q1 q1'
  rw [e] at q2'
  exact (Pn_det q2 q2').2
theorem ln_46 (hT : HT H) (hL : lwL L i) (hy : lwY xs i y) (h : Pn (some xs) m 373 1804 L [] H r H') : (∃ E, r = .inr E) ∨ ∃ (L2 : mjL) (H2 : mjH), lq_46 y H H2 ∧ HT H2 ∧ lwL L2 (i + Int32.ofInt 6) ∧ Pn (some xs) m 373 23 L2 [] H2 r H' := by
  obtain ⟨y0, ⟨-, ey0⟩, L1, hL1, r1, H1, q1, k1⟩ := la_46 hT hL h
  rw [hy.1 _ ey0] at q1
  have ed1 := lg_46a hT q1
  rcases k1 with ⟨v1, e1, h1⟩ | ⟨E, -, z, -⟩
  rotate_left
  · exact Or.inl ⟨E, z⟩
  obtain ⟨s0, hs0⟩ := lRi ed1 rfl e1
  rw [hs0] at h1
  obtain ⟨y0', ⟨-, ey0'⟩, L2, hL2, r2, H2, q2, k2⟩ := lb_46 ed1.1 hL1 h1
  rw [hy.1 _ ey0'] at q2
  have ed2 := lg_46b ed1.1 q2
  rcases k2 with ⟨v2, e2, h2⟩ | ⟨E, -, z, -⟩
  rotate_left
  · exact Or.inl ⟨E, z⟩
  obtain ⟨s1, hs1⟩ := lRi ed2 rfl e2
  rw [hs1] at h2
  obtain ⟨L3, hL3, h3⟩ := lc_46 ed2.1 hL2 h2
  exact Or.inr ⟨L3, H2, ⟨_, _, _, _, H1, q1, q2, ⟨_, e1⟩, _, e2⟩, ed2.1, hL3, h3⟩
/-- asks -/
def lq_47 (y : Nat → Int32) (H H2 : mjH) : Prop := ∃ (m1 m2 : Nat) (r1 r2 : Option Value ⊕ Nat) (H1 : mjH), Pn none m1 369 0 [(0, .ref 0), (1, .int (y 1)), (2, .ref 578)] [] H r1 H1 ∧ Pn none m2 307 0 [(0, .ref 78), (1, .int (y 1))] [] H1 r2 H2 ∧ (∃ v1, r1 = .inl v1) ∧ ∃ v2, r2 = .inl v2
theorem lg_47a (hT : HT H) (q : Pn none m 369 0 [(0, .ref 0), (1, .int (y 1)), (2, .ref 578)] [] H r H') : frEd lM105 H r H' := lFr (M := lM105) (s := ([(0, .inl [0]), (1, .inr false), (2, .inl [578])], [])) lIn105 rfl (by decide +kernel) rfl (frLR_c rfl ⟨0, List.mem_singleton.mpr rfl, rfl⟩ (frLR_c rfl ⟨_, rfl⟩ (frLR_c rfl ⟨578, List.mem_singleton.mpr rfl, rfl⟩ frLR_n))) hT q
theorem lg_47b (hT : HT H) (q : Pn none m 307 0 [(0, .ref 78), (1, .int (y 1))] [] H r H') : frEd lM215 H r H' := lFr (M := lM215) (s := ([(0, .inl [78]), (1, .inr false)], [])) lIn215 rfl (by decide +kernel) rfl (frLR_c rfl ⟨78, List.mem_singleton.mpr rfl, rfl⟩ (frLR_c rfl ⟨_, rfl⟩ frLR_n)) hT q
theorem lf_47 (hT : HT H) (q : lq_47 y H H2) : HT H2 ∧ ∀ a b, frIn (lM105).2.2.1 a b = false → frIn (lM215).2.2.1 a b = false → sxEl H2 a b = sxEl H a b := by
  obtain ⟨m1, m2, r1, r2, H1, q1, q2, -⟩ := q
  have e1 := lg_47a hT q1
  have e2 := lg_47b e1.1 q2
  exact ⟨e2.1, fun a b z1 z2 => (e2.2.1 a b z2).trans (e1.2.1 a b z1)⟩
theorem ld_47 (q : lq_47 y H H2) (q' : lq_47 y H H3) : H3 = H2 := by
  obtain ⟨m1, m2, r1, r2, H1, q1, q2, -⟩ := q
  obtain ⟨m1', m2', r1', r2', H1', q1', q2', -⟩ := q'
  obtain ⟨-, e⟩ := Pn_det q1 q1'
  rw [e] at q2'
  exact (Pn_det q2 q2').2
theorem ln_47 (hT : HT H) (hL : lwL L i) (hy : lwY xs i y) (h : Pn (some xs) m 373 1832 L [] H r H') : (∃ E, r = .inr E) ∨ ∃ (L2 : mjL) (H2 : mjH), lq_47 y H H2 ∧ HT H2 ∧ lwL L2 (i + Int32.ofInt 6) ∧ Pn (some xs) m 373 23 L2 [] H2 r H' := by
  obtain ⟨y0, ⟨-, ey0⟩, L1, hL1, r1, H1, q1, k1⟩ := la_47 hT hL h
  rw [hy.1 _ ey0] at q1
  have ed1 := lg_47a hT q1
  rcases k1 with ⟨v1, e1, h1⟩ | ⟨E, -, z, -⟩
  rotate_left
  · exact Or.inl ⟨E, z⟩
  obtain ⟨s0, hs0⟩ := lRi ed1 rfl e1
  rw [hs0] at h1
  obtain ⟨y0', ⟨-, ey0'⟩, L2, hL2, r2, H2, q2, k2⟩ := lb_47 ed1.1 hL1 h1
  rw [hy.1 _ ey0'] at q2
  have ed2 := lg_47b ed1.1 q2
  rcases k2 with ⟨v2, e2, h2⟩ | ⟨E, -, z, -⟩
  rotate_left
  · exact Or.inl ⟨E, z⟩
  obtain ⟨s1, hs1⟩ := lRi ed2 rfl e2
  rw [hs1] at h2
  obtain ⟨L3, hL3, h3⟩ := lc_47 ed2.1 hL2 h2
  exact Or.inr ⟨L3, H2, ⟨_, _, _, _, H1, q1, q2, ⟨_, e1⟩, _, e2⟩, ed2.1, hL3, h3⟩
/-- war -/
def lq_48 (y : Nat → Int32) (H H2 : mjH) : Prop := ∃ (m1 m2 : Nat) (r1 r2 : Option Value ⊕ Nat) (H1 : mjH), Pn none m1 370 0 [(0, .ref 0), (1, .int (y 1)), (2, .ref 578)] [] H r1 H1 ∧ Pn none m2 317 0 [(0, .ref 78), (1, .int (y 1))] [] H1 r2 H2 ∧ (∃ v1, r1 = .inl v1) ∧ ∃ v2, r2 = .inl v2
theorem lg_48a (hT : HT H) (q : Pn none m 370 0 [(0, .ref 0), (1, .int (y 1)), (2, .ref 578)] [] H r H') : frEd lM106 H r H' := lFr (M := lM106) (s := ([(0, .inl [0]), (1, .inr false), (2, .inl [578])], [])) lIn106 rfl (by decide +kernel) rfl (frLR_c rfl ⟨0, List.mem_singleton.mpr rfl, rfl⟩ (frLR_c rfl ⟨_, rfl⟩ (frLR_c rfl ⟨578, List.mem_singleton.mpr rfl, rfl⟩ frLR_n))) hT q
theorem lg_48b (hT : HT H) (q : Pn none m 317 0 [(0, .ref 78), (1, .int (y 1))] [] H r H') : frEd lM216 H r H' := lFr (M := lM216) (s := ([(0, .inl [78]), (1, .inr false)], [])) lIn216 rfl (by decide +kernel) rfl (frLR_c rfl ⟨78, List.mem_singleton.mpr rfl, rfl⟩ (frLR_c rfl ⟨_, rfl⟩ frLR_n)) hT q
theorem lf_48 (hT : HT H) (q : lq_48 y H H2) : HT H2 ∧ ∀ a b, frIn (lM106).2.2.1 a b = false → frIn (lM216).2.2.1 a b = false → sxEl H2 a b = sxEl H a b := by
  obtain ⟨m1, m2, r1, r2, H1, q1, q2, -⟩ := q
  have e1 := lg_48a hT q1
  have e2 := lg_48b e1.1 q2
  exact ⟨e2.1, fun a b z1 z2 => (e2.2.1 a b z2).trans (e1.2.1 a b z1)⟩
theorem ld_48 (q : lq_48 y H H2) (q' : lq_48 y H H3) : H3 = H2 := by
  obtain ⟨m1, m2, r1, r2, H1, q1, q2, -⟩ := q
  obtain ⟨m1', m2', r1', r2', H1', q1', q2', -⟩ := q'
  obtain ⟨-, e⟩ := Pn_det q1 q1'
  rw [e] at q2'
  exact (Pn_det q2 q2').2
theorem ln_48 (hT : HT H) (hL : lwL L i) (hy : lwY xs i y) (h : Pn (some xs) m 373 1860 L [] H r H') : (∃ E, r = .inr E) ∨ ∃ (L2 : mjL) (H2 : mjH), lq_48 y H H2 ∧ HT H2 ∧ lwL L2 (i + Int32.ofInt 6) ∧ Pn (some xs) m 373 23 L2 [] H2 r H' := by
  obtain ⟨y0, ⟨-, ey0⟩, L1, hL1, r1, H1, q1, k1⟩ := la_48 hT hL h
  rw [hy.1 _ ey0] at q1
  have ed1 := lg_48a hT q1
  rcases k1 with ⟨v1, e1, h1⟩ | ⟨E, -, z, -⟩
  rotate_left
  · exact Or.inl ⟨E, z⟩
  obtain ⟨s0, hs0⟩ := lRi ed1 rfl e1
  rw [hs0] at h1
  obtain ⟨y0', ⟨-, ey0'⟩, L2, hL2, r2, H2, q2, k2⟩ := lb_48 ed1.1 hL1 h1
  rw [hy.1 _ ey0'] at q2
  have ed2 := lg_48b ed1.1 q2
  rcases k2 with ⟨v2, e2, h2⟩ | ⟨E, -, z, -⟩
  rotate_left
  · exact Or.inl ⟨E, z⟩
  obtain ⟨s1, hs1⟩ := lRi ed2 rfl e2
  rw [hs1] at h2
  obtain ⟨L3, hL3, h3⟩ := lc_48 ed2.1 hL2 h2
  exact Or.inr ⟨L3, H2, ⟨_, _, _, _, H1, q1, q2, ⟨_, e1⟩, _, e2⟩, ed2.1, hL3, h3⟩
/-- grave -/
def lq_49 (y : Nat → Int32) (H H2 : mjH) : Prop := ∃ (m1 m2 : Nat) (r1 r2 : Option Value ⊕ Nat) (H1 : mjH), Pn none m1 162 0 [(0, .ref 0), (1, .int (y 1))] [] H r1 H1 ∧ Pn none m2 282 0 [(0, .ref 78), (1, .int (y 1))] [] H1 r2 H2 ∧ (∃ v1, r1 = .inl v1) ∧ ∃ v2, r2 = .inl v2
theorem lg_49a (hT : HT H) (q : Pn none m 162 0 [(0, .ref 0), (1, .int (y 1))] [] H r H') : frEd lM107 H r H' := lFr (M := lM107) (s := ([(0, .inl [0]), (1, .inr false)], [])) lIn107 rfl (by decide +kernel) rfl (frLR_c rfl ⟨0, List.mem_singleton.mpr rfl, rfl⟩ (frLR_c rfl ⟨_, rfl⟩ frLR_n)) hT q
theorem lg_49b (hT : HT H) (q : Pn none m 282 0 [(0, .ref 78), (1, .int (y 1))] [] H r H') : frEd lM217 H r H' := lFr (M := lM217) (s := ([(0, .inl [78]), (1, .inr false)], [])) lIn217 rfl (by decide +kernel) rfl (frLR_c rfl ⟨78, List.mem_singleton.mpr rfl, rfl⟩ (frLR_c rfl ⟨_, rfl⟩ frLR_n)) hT q
theorem lf_49 (hT : HT H) (q : lq_49 y H H2) : HT H2 ∧ ∀ a b, frIn (lM107).2.2.1 a b = false → frIn (lM217).2.2.1 a b = false → sxEl H2 a b = sxEl H a b := by
  obtain ⟨m1, m2, r1, r2, H1, q1, q2, -⟩ := q
  have e1 := lg_49a hT q1
  have e2 := lg_49b e1.1 q2
  exact ⟨e2.1, fun a b z1 z2 => (e2.2.1 a b z2).trans (e1.2.1 a b z1)⟩
theorem ld_49 (q : lq_49 y H H2) (q' : lq_49 y H H3) : H3 = H2 := by
  obtain ⟨m1, m2, r1, r2, H1, q1, q2, -⟩ := q
  obtain ⟨m1', m2', r1', r2', H1', q1', q2', -⟩ := q'
  obtain ⟨-, e⟩ := Pn_det q1 q1'
  rw [e] at q2'
  exact (Pn_det q2 q2').2
theorem ln_49 (hT : HT H) (hL : lwL L i) (hy : lwY xs i y) (h : Pn (some xs) m 373 1888 L [] H r H') : (∃ E, r = .inr E) ∨ ∃ (L2 : mjL) (H2 : mjH), lq_49 y H H2 ∧ HT H2 ∧ lwL L2 (i + Int32.ofInt 6) ∧ Pn (some xs) m 373 23 L2 [] H2 r H' := by
  obtain ⟨y0, ⟨-, ey0⟩, L1, hL1, r1, H1, q1, k1⟩ := la_49 hT hL h
  rw [hy.1 _ ey0] at q1
  have ed1 := lg_49a hT q1
  rcases k1 with ⟨v1, e1, h1⟩ | ⟨E, -, z, -⟩
  rotate_left
  · exact Or.inl ⟨E, z⟩
  obtain ⟨s0, hs0⟩ := lRi ed1 rfl e1
  rw [hs0] at h1
  obtain ⟨y0', ⟨-, ey0'⟩, L2, hL2, r2, H2, q2, k2⟩ := lb_49 ed1.1 hL1 h1
  rw [hy.1 _ ey0'] at q2
  have ed2 := lg_49b ed1.1 q2
  rcases k2 with ⟨v2, e2, h2⟩ | ⟨E, -, z, -⟩
  rotate_left
  · exact Or.inl ⟨E, z⟩
  obtain ⟨s1, hs1⟩ := lRi ed2 rfl e2
  rw [hs1] at h2
  obtain ⟨L3, hL3, h3⟩ := lc_49 ed2.1 hL2 h2
  exact Or.inr ⟨L3, H2, ⟨_, _, _, _, H1, q1, q2, ⟨_, e1⟩, _, e2⟩, ed2.1, hL3, h3⟩
/-- canon -/
def lq_50 (y : Nat → Int32) (H H2 : mjH) : Prop := ∃ (m1 m2 : Nat) (r1 r2 : Option Value ⊕ Nat) (H1 : mjH), Pn none m1 371 0 [(0, .ref 0), (1, .int (y 1)), (2, .ref 578)] [] H r1 H1 ∧ Pn none m2 283 0 [(0, .ref 78), (1, .int (y 1))] [] H1 r2 H2 ∧ (∃ v1, r1 = .inl v1) ∧ ∃ v2, r2 = .inl v2
theorem lg_50a (hT : HT H) (q : Pn none m 371 0 [(0, .ref 0), (1, .int (y 1)), (2, .ref 578)] [] H r H') : frEd lM108 H r H' := lFr (M := lM108) (s := ([(0, .inl [0]), (1, .inr false), (2, .inl [578])], [])) lIn108 rfl (by decide +kernel) rfl (frLR_c rfl ⟨0, List.mem_singleton.mpr rfl, rfl⟩ (frLR_c rfl ⟨_, rfl⟩ (frLR_c rfl ⟨578, List.mem_singleton.mpr rfl, rfl⟩ frLR_n))) hT q
theorem lg_50b (hT : HT H) (q : Pn none m 283 0 [(0, .ref 78), (1, .int (y 1))] [] H r H') : frEd lM218 H r H' := lFr (M := lM218) (s := ([(0, .inl [78]), (1, .inr false)], [])) lIn218 rfl (by decide +kernel) rfl (frLR_c rfl ⟨78, List.mem_singleton.mpr rfl, rfl⟩ (frLR_c rfl ⟨_, rfl⟩ frLR_n)) hT q
theorem lf_50 (hT : HT H) (q : lq_50 y H H2) : HT H2 ∧ ∀ a b, frIn (lM108).2.2.1 a b = false → frIn (lM218).2.2.1 a b = false → sxEl H2 a b = sxEl H a b := by
  obtain ⟨m1, m2, r1, r2, H1, q1, q2, -⟩ := q
  have e1 := lg_50a hT q1
  have e2 := lg_50b e1.1 q2
  exact ⟨e2.1, fun a b z1 z2 => (e2.2.1 a b z2).trans (e1.2.1 a b z1)⟩
theorem ld_50 (q : lq_50 y H H2) (q' : lq_50 y H H3) : H3 = H2 := by
  obtain ⟨m1, m2, r1, r2, H1, q1, q2, -⟩ := q
  obtain ⟨m1', m2', r1', r2', H1', q1', q2', -⟩ := q'
  obtain ⟨-, e⟩ := Pn_det q1 q1'
  rw [e] at q2'
  exact (Pn_det q2 q2').2
theorem ln_50 (hT : HT H) (hL : lwL L i) (hy : lwY xs i y) (h : Pn (some xs) m 373 1913 L [] H r H') : (∃ E, r = .inr E) ∨ ∃ (L2 : mjL) (H2 : mjH), lq_50 y H H2 ∧ HT H2 ∧ lwL L2 (i + Int32.ofInt 6) ∧ Pn (some xs) m 373 23 L2 [] H2 r H' := by
  obtain ⟨y0, ⟨-, ey0⟩, L1, hL1, r1, H1, q1, k1⟩ := la_50 hT hL h
  rw [hy.1 _ ey0] at q1
  have ed1 := lg_50a hT q1
  rcases k1 with ⟨v1, e1, h1⟩ | ⟨E, -, z, -⟩
  rotate_left
  · exact Or.inl ⟨E, z⟩
  obtain ⟨s0, hs0⟩ := lRi ed1 rfl e1
  rw [hs0] at h1
  obtain ⟨y0', ⟨-, ey0'⟩, L2, hL2, r2, H2, q2, k2⟩ := lb_50 ed1.1 hL1 h1
  rw [hy.1 _ ey0'] at q2
  have ed2 := lg_50b ed1.1 q2
  rcases k2 with ⟨v2, e2, h2⟩ | ⟨E, -, z, -⟩
  rotate_left
  · exact Or.inl ⟨E, z⟩
  obtain ⟨s1, hs1⟩ := lRi ed2 rfl e2
  rw [hs1] at h2
  obtain ⟨L3, hL3, h3⟩ := lc_50 ed2.1 hL2 h2
  exact Or.inr ⟨L3, H2, ⟨_, _, _, _, H1, q1, q2, ⟨_, e1⟩, _, e2⟩, ed2.1, hL3, h3⟩
/-- swap -/
def lq_51 (y : Nat → Int32) (H H2 : mjH) : Prop := ∃ (m1 m2 : Nat) (r1 r2 : Option Value ⊕ Nat) (H1 : mjH), Pn none m1 164 0 [(0, .ref 0)] [] H r1 H1 ∧ Pn none m2 279 0 [(0, .ref 78)] [] H1 r2 H2 ∧ (∃ v1, r1 = .inl v1) ∧ ∃ v2, r2 = .inl v2
theorem lg_51a (hT : HT H) (q : Pn none m 164 0 [(0, .ref 0)] [] H r H') : frEd lM109 H r H' := lFr (M := lM109) (s := ([(0, .inl [0])], [])) lIn109 rfl (by decide +kernel) rfl (frLR_c rfl ⟨0, List.mem_singleton.mpr rfl, rfl⟩ frLR_n) hT q
theorem lg_51b (hT : HT H) (q : Pn none m 279 0 [(0, .ref 78)] [] H r H') : frEd lM219 H r H' := lFr (M := lM219) (s := ([(0, .inl [78])], [])) lIn219 rfl (by decide +kernel) rfl (frLR_c rfl ⟨78, List.mem_singleton.mpr rfl, rfl⟩ frLR_n) hT q
theorem lf_51 (hT : HT H) (q : lq_51 y H H2) : HT H2 ∧ ∀ a b, frIn (lM109).2.2.1 a b = false → frIn (lM219).2.2.1 a b = false → sxEl H2 a b = sxEl H a b := by
  obtain ⟨m1, m2, r1, r2, H1, q1, q2, -⟩ := q
  have e1 := lg_51a hT q1
  have e2 := lg_51b e1.1 q2
  exact ⟨e2.1, fun a b z1 z2 => (e2.2.1 a b z2).trans (e1.2.1 a b z1)⟩
theorem ld_51 (q : lq_51 y H H2) (q' : lq_51 y H H3) : H3 = H2 := by
  obtain ⟨m1, m2, r1, r2, H1, q1, q2, -⟩ := q
  obtain ⟨m1', m2', r1', r2', H1', q1', q2', -⟩ := q'
  obtain ⟨-, e⟩ := Pn_det q1 q1'
  rw [e] at q2'
  exact (Pn_det q2 q2').2
theorem ln_51 (hT : HT H) (hL : lwL L i) (hy : lwY xs i y) (h : Pn (some xs) m 373 1941 L [] H r H') : (∃ E, r = .inr E) ∨ ∃ (L2 : mjL) (H2 : mjH), lq_51 y H H2 ∧ HT H2 ∧ lwL L2 (i + Int32.ofInt 6) ∧ Pn (some xs) m 373 23 L2 [] H2 r H' := by
  obtain ⟨L1, hL1, r1, H1, q1, k1⟩ := la_51 hT hL h
  have ed1 := lg_51a hT q1
  rcases k1 with ⟨v1, e1, h1⟩ | ⟨E, -, z, -⟩
  rotate_left
  · exact Or.inl ⟨E, z⟩
  obtain ⟨s0, hs0⟩ := lRi ed1 rfl e1
  rw [hs0] at h1
  obtain ⟨L2, hL2, r2, H2, q2, k2⟩ := lb_51 ed1.1 hL1 h1
  have ed2 := lg_51b ed1.1 q2
  rcases k2 with ⟨v2, e2, h2⟩ | ⟨E, -, z, -⟩
  rotate_left
  · exact Or.inl ⟨E, z⟩
  obtain ⟨s1, hs1⟩ := lRi ed2 rfl e2
  rw [hs1] at h2
  obtain ⟨L3, hL3, h3⟩ := lc_51 ed2.1 hL2 h2
  exact Or.inr ⟨L3, H2, ⟨_, _, _, _, H1, q1, q2, ⟨_, e1⟩, _, e2⟩, ed2.1, hL3, h3⟩
/-- humble -/
def lq_52 (y : Nat → Int32) (H H2 : mjH) : Prop := ∃ (m1 m2 : Nat) (r1 r2 : Option Value ⊕ Nat) (H1 : mjH), Pn none m1 165 0 [(0, .ref 0)] [] H r1 H1 ∧ Pn none m2 280 0 [(0, .ref 78)] [] H1 r2 H2 ∧ (∃ v1, r1 = .inl v1) ∧ ∃ v2, r2 = .inl v2
theorem lg_52a (hT : HT H) (q : Pn none m 165 0 [(0, .ref 0)] [] H r H') : frEd lM110 H r H' := lFr (M := lM110) (s := ([(0, .inl [0])], [])) lIn110 rfl (by decide +kernel) rfl (frLR_c rfl ⟨0, List.mem_singleton.mpr rfl, rfl⟩ frLR_n) hT q
theorem lg_52b (hT : HT H) (q : Pn none m 280 0 [(0, .ref 78)] [] H r H') : frEd lM220 H r H' := lFr (M := lM220) (s := ([(0, .inl [78])], [])) lIn220 rfl (by decide +kernel) rfl (frLR_c rfl ⟨78, List.mem_singleton.mpr rfl, rfl⟩ frLR_n) hT q
theorem lf_52 (hT : HT H) (q : lq_52 y H H2) : HT H2 ∧ ∀ a b, frIn (lM110).2.2.1 a b = false → frIn (lM220).2.2.1 a b = false → sxEl H2 a b = sxEl H a b := by
  obtain ⟨m1, m2, r1, r2, H1, q1, q2, -⟩ := q
  have e1 := lg_52a hT q1
  have e2 := lg_52b e1.1 q2
  exact ⟨e2.1, fun a b z1 z2 => (e2.2.1 a b z2).trans (e1.2.1 a b z1)⟩
theorem ld_52 (q : lq_52 y H H2) (q' : lq_52 y H H3) : H3 = H2 := by
  obtain ⟨m1, m2, r1, r2, H1, q1, q2, -⟩ := q
  obtain ⟨m1', m2', r1', r2', H1', q1', q2', -⟩ := q'
  obtain ⟨-, e⟩ := Pn_det q1 q1'
  rw [e] at q2'
  exact (Pn_det q2 q2').2
theorem ln_52 (hT : HT H) (hL : lwL L i) (hy : lwY xs i y) (h : Pn (some xs) m 373 1954 L [] H r H') : (∃ E, r = .inr E) ∨ ∃ (L2 : mjL) (H2 : mjH), lq_52 y H H2 ∧ HT H2 ∧ lwL L2 (i + Int32.ofInt 6) ∧ Pn (some xs) m 373 23 L2 [] H2 r H' := by
  obtain ⟨L1, hL1, r1, H1, q1, k1⟩ := la_52 hT hL h
  have ed1 := lg_52a hT q1
  rcases k1 with ⟨v1, e1, h1⟩ | ⟨E, -, z, -⟩
  rotate_left
  · exact Or.inl ⟨E, z⟩
  obtain ⟨s0, hs0⟩ := lRi ed1 rfl e1
  rw [hs0] at h1
  obtain ⟨L2, hL2, r2, H2, q2, k2⟩ := lb_52 ed1.1 hL1 h1
  have ed2 := lg_52b ed1.1 q2
  rcases k2 with ⟨v2, e2, h2⟩ | ⟨E, -, z, -⟩
  rotate_left
  · exact Or.inl ⟨E, z⟩
  obtain ⟨s1, hs1⟩ := lRi ed2 rfl e2
  rw [hs1] at h2
  obtain ⟨L3, hL3, h3⟩ := lc_52 ed2.1 hL2 h2
  exact Or.inr ⟨L3, H2, ⟨_, _, _, _, H1, q1, q2, ⟨_, e1⟩, _, e2⟩, ed2.1, hL3, h3⟩
/-- judge -/
def lq_53 (y : Nat → Int32) (H H2 : mjH) : Prop := ∃ (m1 m2 : Nat) (r1 r2 : Option Value ⊕ Nat) (H1 : mjH), Pn none m1 372 0 [(0, .ref 0), (1, .int (y 1)), (2, .int (y 2)), (3, .int (y 3)), (4, .int (y 4)), (5, .ref 578)] [] H r1 H1 ∧ Pn none m2 321 0 [(0, .ref 78), (1, .int (y 1)), (2, .int (y 2)), (3, .int (y 3)), (4, .int (y 4))] [] H1 r2 H2 ∧ (∃ v1, r1 = .inl v1) ∧ ∃ v2, r2 = .inl v2
theorem lg_53a (hT : HT H) (q : Pn none m 372 0 [(0, .ref 0), (1, .int (y 1)), (2, .int (y 2)), (3, .int (y 3)), (4, .int (y 4)), (5, .ref 578)] [] H r H') : frEd lM111 H r H' := lFr (M := lM111) (s := ([(0, .inl [0]), (1, .inr false), (2, .inr false), (3, .inr false), (4, .inr false), (5, .inl [578])], [])) lIn111 rfl (by decide +kernel) rfl (frLR_c rfl ⟨0, List.mem_singleton.mpr rfl, rfl⟩ (frLR_c rfl ⟨_, rfl⟩ (frLR_c rfl ⟨_, rfl⟩ (frLR_c rfl ⟨_, rfl⟩ (frLR_c rfl ⟨_, rfl⟩ (frLR_c rfl ⟨578, List.mem_singleton.mpr rfl, rfl⟩ frLR_n)))))) hT q
theorem lg_53b (hT : HT H) (q : Pn none m 321 0 [(0, .ref 78), (1, .int (y 1)), (2, .int (y 2)), (3, .int (y 3)), (4, .int (y 4))] [] H r H') : frEd lM221 H r H' := lFr (M := lM221) (s := ([(0, .inl [78]), (1, .inr false), (2, .inr false), (3, .inr false), (4, .inr false)], [])) lIn221 rfl (by decide +kernel) rfl (frLR_c rfl ⟨78, List.mem_singleton.mpr rfl, rfl⟩ (frLR_c rfl ⟨_, rfl⟩ (frLR_c rfl ⟨_, rfl⟩ (frLR_c rfl ⟨_, rfl⟩ (frLR_c rfl ⟨_, rfl⟩ frLR_n))))) hT q
theorem lf_53 (hT : HT H) (q : lq_53 y H H2) : HT H2 ∧ ∀ a b, frIn (lM111).2.2.1 a b = false → frIn (lM221).2.2.1 a b = false → sxEl H2 a b = sxEl H a b := by
  obtain ⟨m1, m2, r1, r2, H1, q1, q2, -⟩ := q
  have e1 := lg_53a hT q1
  have e2 := lg_53b e1.1 q2
  exact ⟨e2.1, fun a b z1 z2 => (e2.2.1 a b z2).trans (e1.2.1 a b z1)⟩
theorem ld_53 (q : lq_53 y H H2) (q' : lq_53 y H H3) : H3 = H2 := by
  obtain ⟨m1, m2, r1, r2, H1, q1, q2, -⟩ := q
  obtain ⟨m1', m2', r1', r2', H1', q1', q2', -⟩ := q'
  obtain ⟨-, e⟩ := Pn_det q1 q1'
  rw [e] at q2'
  exact (Pn_det q2 q2').2
theorem ln_53 (hT : HT H) (hL : lwL L i) (hy : lwY xs i y) (h : Pn (some xs) m 373 1967 L [] H r H') : (∃ E, r = .inr E) ∨ ∃ (L2 : mjL) (H2 : mjH), lq_53 y H H2 ∧ HT H2 ∧ lwL L2 (i + Int32.ofInt 6) ∧ Pn (some xs) m 373 23 L2 [] H2 r H' := by
  obtain ⟨y0, ⟨-, ey0⟩, y1, ⟨-, ey1⟩, y2, ⟨-, ey2⟩, y3, ⟨-, ey3⟩, L1, hL1, r1, H1, q1, k1⟩ := la_53 hT hL h
  rw [hy.1 _ ey0] at q1
  rw [hy.2.1 _ ey1] at q1
  rw [hy.2.2.1 _ ey2] at q1
  rw [hy.2.2.2.1 _ ey3] at q1
  have ed1 := lg_53a hT q1
  rcases k1 with ⟨v1, e1, h1⟩ | ⟨E, -, z, -⟩
  rotate_left
  · exact Or.inl ⟨E, z⟩
  obtain ⟨s0, hs0⟩ := lRi ed1 rfl e1
  rw [hs0] at h1
  obtain ⟨y0', ⟨-, ey0'⟩, y1', ⟨-, ey1'⟩, y2', ⟨-, ey2'⟩, y3', ⟨-, ey3'⟩, L2, hL2, r2, H2, q2, k2⟩ := lb_53 ed1.1 hL1 h1
  rw [hy.1 _ ey0'] at q2
  rw [hy.2.1 _ ey1'] at q2
  rw [hy.2.2.1 _ ey2'] at q2
  rw [hy.2.2.2.1 _ ey3'] at q2
  have ed2 := lg_53b ed1.1 q2
  rcases k2 with ⟨v2, e2, h2⟩ | ⟨E, -, z, -⟩
  rotate_left
  · exact Or.inl ⟨E, z⟩
  obtain ⟨s1, hs1⟩ := lRi ed2 rfl e2
  rw [hs1] at h2
  obtain ⟨L3, hL3, h3⟩ := lc_53 ed2.1 hL2 h2
  exact Or.inr ⟨L3, H2, ⟨_, _, _, _, H1, q1, q2, ⟨_, e1⟩, _, e2⟩, ed2.1, hL3, h3⟩
/-- image -/
def lq_54 (y : Nat → Int32) (H H2 : mjH) : Prop := ∃ (m1 m2 : Nat) (r1 r2 : Option Value ⊕ Nat) (H1 : mjH), Pn none m1 167 0 [(0, .ref 0)] [] H r1 H1 ∧ Pn none m2 324 0 [(0, .ref 78)] [] H1 r2 H2 ∧ (∃ v1, r1 = .inl v1) ∧ ∃ v2, r2 = .inl v2
theorem lg_54a (hT : HT H) (q : Pn none m 167 0 [(0, .ref 0)] [] H r H') : frEd lM112 H r H' := lFr (M := lM112) (s := ([(0, .inl [0])], [])) lIn112 rfl (by decide +kernel) rfl (frLR_c rfl ⟨0, List.mem_singleton.mpr rfl, rfl⟩ frLR_n) hT q
theorem lg_54b (hT : HT H) (q : Pn none m 324 0 [(0, .ref 78)] [] H r H') : frEd lM222 H r H' := lFr (M := lM222) (s := ([(0, .inl [78])], [])) lIn222 rfl (by decide +kernel) rfl (frLR_c rfl ⟨78, List.mem_singleton.mpr rfl, rfl⟩ frLR_n) hT q
theorem lf_54 (hT : HT H) (q : lq_54 y H H2) : HT H2 ∧ ∀ a b, frIn (lM112).2.2.1 a b = false → frIn (lM222).2.2.1 a b = false → sxEl H2 a b = sxEl H a b := by
  obtain ⟨m1, m2, r1, r2, H1, q1, q2, -⟩ := q
  have e1 := lg_54a hT q1
  have e2 := lg_54b e1.1 q2
  exact ⟨e2.1, fun a b z1 z2 => (e2.2.1 a b z2).trans (e1.2.1 a b z1)⟩
theorem ld_54 (q : lq_54 y H H2) (q' : lq_54 y H H3) : H3 = H2 := by
  obtain ⟨m1, m2, r1, r2, H1, q1, q2, -⟩ := q
  obtain ⟨m1', m2', r1', r2', H1', q1', q2', -⟩ := q'
  obtain ⟨-, e⟩ := Pn_det q1 q1'
  rw [e] at q2'
  exact (Pn_det q2 q2').2
theorem ln_54 (hT : HT H) (hL : lwL L i) (hy : lwY xs i y) (h : Pn (some xs) m 373 2031 L [] H r H') : (∃ E, r = .inr E) ∨ ∃ (L2 : mjL) (H2 : mjH), lq_54 y H H2 ∧ HT H2 ∧ lwL L2 (i + Int32.ofInt 6) ∧ Pn (some xs) m 373 23 L2 [] H2 r H' := by
  obtain ⟨L1, hL1, r1, H1, q1, k1⟩ := la_54 hT hL h
  have ed1 := lg_54a hT q1
  rcases k1 with ⟨v1, e1, h1⟩ | ⟨E, -, z, -⟩
  rotate_left
  · exact Or.inl ⟨E, z⟩
  obtain ⟨s0, hs0⟩ := lRi ed1 rfl e1
  rw [hs0] at h1
  obtain ⟨L2, hL2, r2, H2, q2, k2⟩ := lb_54 ed1.1 hL1 h1
  have ed2 := lg_54b ed1.1 q2
  rcases k2 with ⟨v2, e2, h2⟩ | ⟨E, -, z, -⟩
  rotate_left
  · exact Or.inl ⟨E, z⟩
  obtain ⟨s1, hs1⟩ := lRi ed2 rfl e2
  rw [hs1] at h2
  obtain ⟨L3, hL3, h3⟩ := lc_54 ed2.1 hL2 h2
  exact Or.inr ⟨L3, H2, ⟨_, _, _, _, H1, q1, q2, ⟨_, e1⟩, _, e2⟩, ed2.1, hL3, h3⟩
/-- restore -/
def lq_55 (y : Nat → Int32) (H H2 : mjH) : Prop := ∃ (m1 m2 : Nat) (r1 r2 : Option Value ⊕ Nat) (H1 : mjH), Pn none m1 168 0 [(0, .ref 0)] [] H r1 H1 ∧ Pn none m2 325 0 [(0, .ref 78)] [] H1 r2 H2 ∧ (∃ v1, r1 = .inl v1) ∧ ∃ v2, r2 = .inl v2
theorem lg_55a (hT : HT H) (q : Pn none m 168 0 [(0, .ref 0)] [] H r H') : frEd lM113 H r H' := lFr (M := lM113) (s := ([(0, .inl [0])], [])) lIn113 rfl (by decide +kernel) rfl (frLR_c rfl ⟨0, List.mem_singleton.mpr rfl, rfl⟩ frLR_n) hT q
theorem lg_55b (hT : HT H) (q : Pn none m 325 0 [(0, .ref 78)] [] H r H') : frEd lM223 H r H' := lFr (M := lM223) (s := ([(0, .inl [78])], [])) lIn223 rfl (by decide +kernel) rfl (frLR_c rfl ⟨78, List.mem_singleton.mpr rfl, rfl⟩ frLR_n) hT q
theorem lf_55 (hT : HT H) (q : lq_55 y H H2) : HT H2 ∧ ∀ a b, frIn (lM113).2.2.1 a b = false → frIn (lM223).2.2.1 a b = false → sxEl H2 a b = sxEl H a b := by
  obtain ⟨m1, m2, r1, r2, H1, q1, q2, -⟩ := q
  have e1 := lg_55a hT q1
  have e2 := lg_55b e1.1 q2
  exact ⟨e2.1, fun a b z1 z2 => (e2.2.1 a b z2).trans (e1.2.1 a b z1)⟩
theorem ld_55 (q : lq_55 y H H2) (q' : lq_55 y H H3) : H3 = H2 := by
  obtain ⟨m1, m2, r1, r2, H1, q1, q2, -⟩ := q
  obtain ⟨m1', m2', r1', r2', H1', q1', q2', -⟩ := q'
  obtain ⟨-, e⟩ := Pn_det q1 q1'
  rw [e] at q2'
  exact (Pn_det q2 q2').2
theorem ln_55 (hT : HT H) (hL : lwL L i) (hy : lwY xs i y) (h : Pn (some xs) m 373 2044 L [] H r H') : (∃ E, r = .inr E) ∨ ∃ (L2 : mjL) (H2 : mjH), lq_55 y H H2 ∧ HT H2 ∧ lwL L2 (i + Int32.ofInt 6) ∧ Pn (some xs) m 373 23 L2 [] H2 r H' := by
  obtain ⟨L1, hL1, r1, H1, q1, k1⟩ := la_55 hT hL h
  have ed1 := lg_55a hT q1
  rcases k1 with ⟨v1, e1, h1⟩ | ⟨E, -, z, -⟩
  rotate_left
  · exact Or.inl ⟨E, z⟩
  obtain ⟨s0, hs0⟩ := lRi ed1 rfl e1
  rw [hs0] at h1
  obtain ⟨L2, hL2, r2, H2, q2, k2⟩ := lb_55 ed1.1 hL1 h1
  have ed2 := lg_55b ed1.1 q2
  rcases k2 with ⟨v2, e2, h2⟩ | ⟨E, -, z, -⟩
  rotate_left
  · exact Or.inl ⟨E, z⟩
  obtain ⟨s1, hs1⟩ := lRi ed2 rfl e2
  rw [hs1] at h2
  obtain ⟨L3, hL3, h3⟩ := lc_55 ed2.1 hL2 h2
  exact Or.inr ⟨L3, H2, ⟨_, _, _, _, H1, q1, q2, ⟨_, e1⟩, _, e2⟩, ed2.1, hL3, h3⟩
/-- status -/
def lq_56 (y : Nat → Int32) (H H2 : mjH) : Prop := ∃ (m1 m2 : Nat) (r1 r2 : Option Value ⊕ Nat) (H1 : mjH), Pn none m1 169 0 [(0, .ref 0), (1, .int (y 1))] [] H r1 H1 ∧ Pn none m2 326 0 [(0, .ref 78), (1, .int (y 1))] [] H1 r2 H2 ∧ (∃ v1, r1 = .inl v1) ∧ ∃ v2, r2 = .inl v2
theorem lg_56a (hT : HT H) (q : Pn none m 169 0 [(0, .ref 0), (1, .int (y 1))] [] H r H') : frEd lM114 H r H' := lFr (M := lM114) (s := ([(0, .inl [0]), (1, .inr false)], [])) lIn114 rfl (by decide +kernel) rfl (frLR_c rfl ⟨0, List.mem_singleton.mpr rfl, rfl⟩ (frLR_c rfl ⟨_, rfl⟩ frLR_n)) hT q
theorem lg_56b (hT : HT H) (q : Pn none m 326 0 [(0, .ref 78), (1, .int (y 1))] [] H r H') : frEd lM224 H r H' := lFr (M := lM224) (s := ([(0, .inl [78]), (1, .inr false)], [])) lIn224 rfl (by decide +kernel) rfl (frLR_c rfl ⟨78, List.mem_singleton.mpr rfl, rfl⟩ (frLR_c rfl ⟨_, rfl⟩ frLR_n)) hT q
theorem lf_56 (hT : HT H) (q : lq_56 y H H2) : HT H2 ∧ ∀ a b, frIn (lM114).2.2.1 a b = false → frIn (lM224).2.2.1 a b = false → sxEl H2 a b = sxEl H a b := by
  obtain ⟨m1, m2, r1, r2, H1, q1, q2, -⟩ := q
  have e1 := lg_56a hT q1
  have e2 := lg_56b e1.1 q2
  exact ⟨e2.1, fun a b z1 z2 => (e2.2.1 a b z2).trans (e1.2.1 a b z1)⟩
theorem ld_56 (q : lq_56 y H H2) (q' : lq_56 y H H3) : H3 = H2 := by
  obtain ⟨m1, m2, r1, r2, H1, q1, q2, -⟩ := q
  obtain ⟨m1', m2', r1', r2', H1', q1', q2', -⟩ := q'
  obtain ⟨-, e⟩ := Pn_det q1 q1'
  rw [e] at q2'
  exact (Pn_det q2 q2').2
theorem ln_56 (hT : HT H) (hL : lwL L i) (hy : lwY xs i y) (h : Pn (some xs) m 373 2057 L [] H r H') : (∃ E, r = .inr E) ∨ ∃ (L2 : mjL) (H2 : mjH), lq_56 y H H2 ∧ HT H2 ∧ lwL L2 (i + Int32.ofInt 6) ∧ Pn (some xs) m 373 23 L2 [] H2 r H' := by
  obtain ⟨y0, ⟨-, ey0⟩, L1, hL1, r1, H1, q1, k1⟩ := la_56 hT hL h
  rw [hy.1 _ ey0] at q1
  have ed1 := lg_56a hT q1
  rcases k1 with ⟨v1, e1, h1⟩ | ⟨E, -, z, -⟩
  rotate_left
  · exact Or.inl ⟨E, z⟩
  obtain ⟨s0, hs0⟩ := lRi ed1 rfl e1
  rw [hs0] at h1
  obtain ⟨y0', ⟨-, ey0'⟩, L2, hL2, r2, H2, q2, k2⟩ := lb_56 ed1.1 hL1 h1
  rw [hy.1 _ ey0'] at q2
  have ed2 := lg_56b ed1.1 q2
  rcases k2 with ⟨v2, e2, h2⟩ | ⟨E, -, z, -⟩
  rotate_left
  · exact Or.inl ⟨E, z⟩
  obtain ⟨s1, hs1⟩ := lRi ed2 rfl e2
  rw [hs1] at h2
  obtain ⟨L3, hL3, h3⟩ := lc_56 ed2.1 hL2 h2
  exact Or.inr ⟨L3, H2, ⟨_, _, _, _, H1, q1, q2, ⟨_, e1⟩, _, e2⟩, ed2.1, hL3, h3⟩
/-- count -/
def lq_57 (y : Nat → Int32) (H H2 : mjH) : Prop := ∃ (m1 m2 : Nat) (r1 r2 : Option Value ⊕ Nat) (H1 : mjH), Pn none m1 170 0 [(0, .ref 0), (1, .int (y 1))] [] H r1 H1 ∧ Pn none m2 327 0 [(0, .ref 78), (1, .int (y 1))] [] H1 r2 H2 ∧ (∃ v1, r1 = .inl v1) ∧ ∃ v2, r2 = .inl v2
theorem lg_57a (hT : HT H) (q : Pn none m 170 0 [(0, .ref 0), (1, .int (y 1))] [] H r H') : frEd lM115 H r H' := lFr (M := lM115) (s := ([(0, .inl [0]), (1, .inr false)], [])) lIn115 rfl (by decide +kernel) rfl (frLR_c rfl ⟨0, List.mem_singleton.mpr rfl, rfl⟩ (frLR_c rfl ⟨_, rfl⟩ frLR_n)) hT q
theorem lg_57b (hT : HT H) (q : Pn none m 327 0 [(0, .ref 78), (1, .int (y 1))] [] H r H') : frEd lM225 H r H' := lFr (M := lM225) (s := ([(0, .inl [78]), (1, .inr false)], [])) lIn225 rfl (by decide +kernel) rfl (frLR_c rfl ⟨78, List.mem_singleton.mpr rfl, rfl⟩ (frLR_c rfl ⟨_, rfl⟩ frLR_n)) hT q
theorem lf_57 (hT : HT H) (q : lq_57 y H H2) : HT H2 ∧ ∀ a b, frIn (lM115).2.2.1 a b = false → frIn (lM225).2.2.1 a b = false → sxEl H2 a b = sxEl H a b := by
  obtain ⟨m1, m2, r1, r2, H1, q1, q2, -⟩ := q
  have e1 := lg_57a hT q1
  have e2 := lg_57b e1.1 q2
  exact ⟨e2.1, fun a b z1 z2 => (e2.2.1 a b z2).trans (e1.2.1 a b z1)⟩
theorem ld_57 (q : lq_57 y H H2) (q' : lq_57 y H H3) : H3 = H2 := by
  obtain ⟨m1, m2, r1, r2, H1, q1, q2, -⟩ := q
  obtain ⟨m1', m2', r1', r2', H1', q1', q2', -⟩ := q'
  obtain ⟨-, e⟩ := Pn_det q1 q1'
  rw [e] at q2'
  exact (Pn_det q2 q2').2
theorem ln_57 (hT : HT H) (hL : lwL L i) (hy : lwY xs i y) (h : Pn (some xs) m 373 2082 L [] H r H') : (∃ E, r = .inr E) ∨ ∃ (L2 : mjL) (H2 : mjH), lq_57 y H H2 ∧ HT H2 ∧ lwL L2 (i + Int32.ofInt 6) ∧ Pn (some xs) m 373 23 L2 [] H2 r H' := by
  obtain ⟨y0, ⟨-, ey0⟩, L1, hL1, r1, H1, q1, k1⟩ := la_57 hT hL h
  rw [hy.1 _ ey0] at q1
  have ed1 := lg_57a hT q1
  rcases k1 with ⟨v1, e1, h1⟩ | ⟨E, -, z, -⟩
  rotate_left
  · exact Or.inl ⟨E, z⟩
  obtain ⟨s0, hs0⟩ := lRi ed1 rfl e1
  rw [hs0] at h1
  obtain ⟨y0', ⟨-, ey0'⟩, L2, hL2, r2, H2, q2, k2⟩ := lb_57 ed1.1 hL1 h1
  rw [hy.1 _ ey0'] at q2
  have ed2 := lg_57b ed1.1 q2
  rcases k2 with ⟨v2, e2, h2⟩ | ⟨E, -, z, -⟩
  rotate_left
  · exact Or.inl ⟨E, z⟩
  obtain ⟨s1, hs1⟩ := lRi ed2 rfl e2
  rw [hs1] at h2
  obtain ⟨L3, hL3, h3⟩ := lc_57 ed2.1 hL2 h2
  exact Or.inr ⟨L3, H2, ⟨_, _, _, _, H1, q1, q2, ⟨_, e1⟩, _, e2⟩, ed2.1, hL3, h3⟩
/-- what a turn comes to, by its number -/
def lqF : Nat → (Nat → Int32) → mjH → mjH → Prop
  | 0, y, H, H2 => lq_0 y H H2
  | 1, y, H, H2 => lq_1 y H H2
  | 2, y, H, H2 => lq_2 y H H2
  | 3, y, H, H2 => lq_3 y H H2
  | 4, y, H, H2 => lq_4 y H H2
  | 5, y, H, H2 => lq_5 y H H2
  | 6, y, H, H2 => lq_6 y H H2
  | 7, y, H, H2 => lq_7 y H H2
  | 8, y, H, H2 => lq_8 y H H2
  | 9, y, H, H2 => lq_9 y H H2
  | 10, y, H, H2 => lq_10 y H H2
  | 11, y, H, H2 => lq_11 y H H2
  | 12, y, H, H2 => lq_12 y H H2
  | 13, y, H, H2 => lq_13 y H H2
  | 14, y, H, H2 => lq_14 y H H2
  | 15, y, H, H2 => lq_15 y H H2
  | 16, y, H, H2 => lq_16 y H H2
  | 17, y, H, H2 => lq_17 y H H2
  | 18, y, H, H2 => lq_18 y H H2
  | 19, y, H, H2 => lq_19 y H H2
  | 20, y, H, H2 => lq_20 y H H2
  | 21, y, H, H2 => lq_21 y H H2
  | 22, y, H, H2 => lq_22 y H H2
  | 23, y, H, H2 => lq_23 y H H2
  | 24, y, H, H2 => lq_24 y H H2
  | 25, y, H, H2 => lq_25 y H H2
  | 26, y, H, H2 => lq_26 y H H2
  | 27, y, H, H2 => lq_27 y H H2
  | 28, y, H, H2 => lq_28 y H H2
  | 29, y, H, H2 => False
  | 30, y, H, H2 => lq_30 y H H2
  | 31, y, H, H2 => lq_31 y H H2
  | 32, y, H, H2 => lq_32 y H H2
  | 33, y, H, H2 => lq_33 y H H2
  | 34, y, H, H2 => lq_34 y H H2
  | 35, y, H, H2 => lq_35 y H H2
  | 36, y, H, H2 => lq_36 y H H2
  | 37, y, H, H2 => lq_37 y H H2
  | 38, y, H, H2 => lq_38 y H H2
  | 39, y, H, H2 => lq_39 y H H2
  | 40, y, H, H2 => lq_40 y H H2
  | 41, y, H, H2 => lq_41 y H H2
  | 42, y, H, H2 => lq_42 y H H2
  | 43, y, H, H2 => lq_43 y H H2
  | 44, y, H, H2 => lq_44 y H H2
  | 45, y, H, H2 => lq_45 y H H2
  | 46, y, H, H2 => lq_46 y H H2
  | 47, y, H, H2 => lq_47 y H H2
  | 48, y, H, H2 => lq_48 y H H2
  | 49, y, H, H2 => lq_49 y H H2
  | 50, y, H, H2 => lq_50 y H H2
  | 51, y, H, H2 => lq_51 y H H2
  | 52, y, H, H2 => lq_52 y H H2
  | 53, y, H, H2 => lq_53 y H H2
  | 54, y, H, H2 => lq_54 y H H2
  | 55, y, H, H2 => lq_55 y H H2
  | 56, y, H, H2 => lq_56 y H H2
  | 57, y, H, H2 => lq_57 y H H2
  | _ + 58, _, H, H2 => H2 = H
def lqA (w : Int) (y : Nat → Int32) (H H2 : mjH) : Prop := if w < 0 ∨ 57 < w then H2 = H else lqF w.toNat y H H2
theorem lqA_v {w : Int} {v : Nat} (hv : v ≤ 57) (c : w = v) : lqA w y H H2 = lqF v y H H2 := by
  subst c
  unfold lqA
  rw [if_neg (by omega)]
  rfl
theorem ldF : ∀ n : Nat, lqF n y H H2 → lqF n y H H3 → H3 = H2
  | 0, q, q' => ld_0 q q'
  | 1, q, q' => ld_1 q q'
  | 2, q, q' => ld_2 q q'
  | 3, q, q' => ld_3 q q'
  | 4, q, q' => ld_4 q q'
  | 5, q, q' => ld_5 q q'
  | 6, q, q' => ld_6 q q'
  | 7, q, q' => ld_7 q q'
  | 8, q, q' => ld_8 q q'
  | 9, q, q' => ld_9 q q'
  | 10, q, q' => ld_10 q q'
  | 11, q, q' => ld_11 q q'
  | 12, q, q' => ld_12 q q'
  | 13, q, q' => ld_13 q q'
  | 14, q, q' => ld_14 q q'
  | 15, q, q' => ld_15 q q'
  | 16, q, q' => ld_16 q q'
  | 17, q, q' => ld_17 q q'
  | 18, q, q' => ld_18 q q'
  | 19, q, q' => ld_19 q q'
  | 20, q, q' => ld_20 q q'
  | 21, q, q' => ld_21 q q'
  | 22, q, q' => ld_22 q q'
  | 23, q, q' => ld_23 q q'
  | 24, q, q' => ld_24 q q'
  | 25, q, q' => ld_25 q q'
  | 26, q, q' => ld_26 q q'
  | 27, q, q' => ld_27 q q'
  | 28, q, q' => ld_28 q q'
  | 29, q, q' => q.elim
  | 30, q, q' => ld_30 q q'
  | 31, q, q' => ld_31 q q'
  | 32, q, q' => ld_32 q q'
  | 33, q, q' => ld_33 q q'
  | 34, q, q' => ld_34 q q'
  | 35, q, q' => ld_35 q q'
  | 36, q, q' => ld_36 q q'
  | 37, q, q' => ld_37 q q'
  | 38, q, q' => ld_38 q q'
  | 39, q, q' => ld_39 q q'
  | 40, q, q' => ld_40 q q'
  | 41, q, q' => ld_41 q q'
  | 42, q, q' => ld_42 q q'
  | 43, q, q' => ld_43 q q'
  | 44, q, q' => ld_44 q q'
  | 45, q, q' => ld_45 q q'
  | 46, q, q' => ld_46 q q'
  | 47, q, q' => ld_47 q q'
  | 48, q, q' => ld_48 q q'
  | 49, q, q' => ld_49 q q'
  | 50, q, q' => ld_50 q q'
  | 51, q, q' => ld_51 q q'
  | 52, q, q' => ld_52 q q'
  | 53, q, q' => ld_53 q q'
  | 54, q, q' => ld_54 q q'
  | 55, q, q' => ld_55 q q'
  | 56, q, q' => ld_56 q q'
  | 57, q, q' => ld_57 q q'
  | _ + 58, q, q' => (show H3 = H from q').trans (show H2 = H from q).symm
theorem ldA {w : Int} (q : lqA w y H H2) (q' : lqA w y H H3) : H3 = H2 := by
  unfold lqA at q q'
  split at q
  · rename_i c
    rw [if_pos c] at q'
    rw [q, q']
  · rename_i c
    rw [if_neg c] at q'
    exact ldF _ q q'
/-- the words of a turn -/
def lwy (xs : List Int32) (i : Int32) : Nat → Int32 := fun j => if j < 6 then xs.getD (i + Int32.ofInt (j : Int)).toNatClampNeg 0 else 0
theorem lw_turn (hT : HT H) (hL : lwL L i) (h : Pn (some xs) m 373 26 L [.ref 3000000, .int i] H r H') : (((Int32.ofNat xs.length) - (Int32.ofInt 6) < i) ∧ r = .inl (some (.int (Int32.ofInt 1))) ∧ H' = H) ∨ (∃ E, r = .inr E) ∨ (¬ ((Int32.ofNat xs.length) - (Int32.ofInt 6) < i) ∧ ((∃ L1, (lwy xs i 0 &&& Int32.ofInt 63).toInt = 29 ∧ lwY xs i (lwy xs i) ∧ lwL L1 i ∧ Pn (some xs) m 373 1195 L1 [] H r H') ∨ ((lwy xs i 0 &&& Int32.ofInt 63).toInt ≠ 29 ∧ ∃ (L2 : mjL) (H2 : mjH), lqA (lwy xs i 0 &&& Int32.ofInt 63).toInt (lwy xs i) H H2 ∧ HT H2 ∧ lwL L2 (i + Int32.ofInt 6) ∧ Pn (some xs) m 373 23 L2 [] H2 r H'))) := by
  rcases la_hd hT hL h with ⟨c, e1, e2⟩ | ⟨c, y0, ⟨-, g0⟩, L0, hL0, h0⟩
  · exact Or.inl ⟨c, e1, e2⟩
  refine Or.inr ?_
  have hd : ∀ (a : Int32) (z : Int32), xs[a.toNatClampNeg]? = some z → z = xs.getD a.toNatClampNeg 0 := fun a z hz => by
    rw [List.getD_eq_getElem?_getD, hz]
    rfl
  have hi0 : i + Int32.ofInt ((0 : Nat) : Int) = i := Int32.add_zero i
  have hy0 : y0 = lwy xs i 0 := by
    show y0 = xs.getD (i + Int32.ofInt ((0 : Nat) : Int)).toNatClampNeg 0
    rw [hi0]
    exact hd _ _ g0
  have hy : lwY xs i (lwy xs i) := ⟨hd _, hd _, hd _, hd _, hd _⟩
  rw [hy0] at h0
  generalize lwy xs i = y at hy h0 ⊢
  generalize (y 0 &&& Int32.ofInt 63) = w at h0 ⊢
  rcases la_sw hT hL0 h0 with ⟨d, L1, hL1, h1⟩ | ⟨d, L1, hL1, h1⟩ | ⟨d, L1, hL1, h1⟩ | ⟨d, L1, hL1, h1⟩ | ⟨d, L1, hL1, h1⟩ | ⟨d, L1, hL1, h1⟩ | ⟨d, L1, hL1, h1⟩ | ⟨d, L1, hL1, h1⟩ | ⟨d, L1, hL1, h1⟩ | ⟨d, L1, hL1, h1⟩ | ⟨d, L1, hL1, h1⟩ | ⟨d, L1, hL1, h1⟩ | ⟨d, L1, hL1, h1⟩ | ⟨d, L1, hL1, h1⟩ | ⟨d, L1, hL1, h1⟩ | ⟨d, L1, hL1, h1⟩ | ⟨d, L1, hL1, h1⟩ | ⟨d, L1, hL1, h1⟩ | ⟨d, L1, hL1, h1⟩ | ⟨d, L1, hL1, h1⟩ | ⟨d, L1, hL1, h1⟩ | ⟨d, L1, hL1, h1⟩ | ⟨d, L1, hL1, h1⟩ | ⟨d, L1, hL1, h1⟩ | ⟨d, L1, hL1, h1⟩ | ⟨d, L1, hL1, h1⟩ | ⟨d, L1, hL1, h1⟩ | ⟨d, L1, hL1, h1⟩ | ⟨d, L1, hL1, h1⟩ | ⟨d, L1, hL1, h1⟩ | ⟨d, L1, hL1, h1⟩ | ⟨d, L1, hL1, h1⟩ | ⟨d, L1, hL1, h1⟩ | ⟨d, L1, hL1, h1⟩ | ⟨d, L1, hL1, h1⟩ | ⟨d, L1, hL1, h1⟩ | ⟨d, L1, hL1, h1⟩ | ⟨d, L1, hL1, h1⟩ | ⟨d, L1, hL1, h1⟩ | ⟨d, L1, hL1, h1⟩ | ⟨d, L1, hL1, h1⟩ | ⟨d, L1, hL1, h1⟩ | ⟨d, L1, hL1, h1⟩ | ⟨d, L1, hL1, h1⟩ | ⟨d, L1, hL1, h1⟩ | ⟨d, L1, hL1, h1⟩ | ⟨d, L1, hL1, h1⟩ | ⟨d, L1, hL1, h1⟩ | ⟨d, L1, hL1, h1⟩ | ⟨d, L1, hL1, h1⟩ | ⟨d, L1, hL1, h1⟩ | ⟨d, L1, hL1, h1⟩ | ⟨d, L1, hL1, h1⟩ | ⟨d, L1, hL1, h1⟩ | ⟨d, L1, hL1, h1⟩ | ⟨d, L1, hL1, h1⟩ | ⟨d, L1, hL1, h1⟩ | ⟨d, L1, hL1, h1⟩ | ⟨d, L1, hL1, h1⟩
  · exact Or.inr ⟨c, Or.inr ⟨by omega, L1, H, by unfold lqA; rw [if_pos d], hT, hL1, h1⟩⟩
  · rcases ln_0 hT hL1 hy h1 with z | ⟨L2, H2, q, t, hL2, h2⟩
    · exact Or.inl z
    · exact Or.inr ⟨c, Or.inr ⟨by omega, L2, H2, (lqA_v (v := 0) (by decide) d).mpr q, t, hL2, h2⟩⟩
  · rcases ln_1 hT hL1 hy h1 with z | ⟨L2, H2, q, t, hL2, h2⟩
    · exact Or.inl z
    · exact Or.inr ⟨c, Or.inr ⟨by omega, L2, H2, (lqA_v (v := 1) (by decide) d).mpr q, t, hL2, h2⟩⟩
  · rcases ln_2 hT hL1 hy h1 with z | ⟨L2, H2, q, t, hL2, h2⟩
    · exact Or.inl z
    · exact Or.inr ⟨c, Or.inr ⟨by omega, L2, H2, (lqA_v (v := 2) (by decide) d).mpr q, t, hL2, h2⟩⟩
  · rcases ln_3 hT hL1 hy h1 with z | ⟨L2, H2, q, t, hL2, h2⟩
    · exact Or.inl z
    · exact Or.inr ⟨c, Or.inr ⟨by omega, L2, H2, (lqA_v (v := 3) (by decide) d).mpr q, t, hL2, h2⟩⟩
  · rcases ln_4 hT hL1 hy h1 with z | ⟨L2, H2, q, t, hL2, h2⟩
    · exact Or.inl z
    · exact Or.inr ⟨c, Or.inr ⟨by omega, L2, H2, (lqA_v (v := 4) (by decide) d).mpr q, t, hL2, h2⟩⟩
  · rcases ln_5 hT hL1 hy h1 with z | ⟨L2, H2, q, t, hL2, h2⟩
    · exact Or.inl z
    · exact Or.inr ⟨c, Or.inr ⟨by omega, L2, H2, (lqA_v (v := 5) (by decide) d).mpr q, t, hL2, h2⟩⟩
  · rcases ln_6 hT hL1 hy h1 with z | ⟨L2, H2, q, t, hL2, h2⟩
    · exact Or.inl z
    · exact Or.inr ⟨c, Or.inr ⟨by omega, L2, H2, (lqA_v (v := 6) (by decide) d).mpr q, t, hL2, h2⟩⟩
  · rcases ln_7 hT hL1 hy h1 with z | ⟨L2, H2, q, t, hL2, h2⟩
    · exact Or.inl z
    · exact Or.inr ⟨c, Or.inr ⟨by omega, L2, H2, (lqA_v (v := 7) (by decide) d).mpr q, t, hL2, h2⟩⟩
  · rcases ln_8 hT hL1 hy h1 with z | ⟨L2, H2, q, t, hL2, h2⟩
    · exact Or.inl z
    · exact Or.inr ⟨c, Or.inr ⟨by omega, L2, H2, (lqA_v (v := 8) (by decide) d).mpr q, t, hL2, h2⟩⟩
  · rcases ln_9 hT hL1 hy h1 with z | ⟨L2, H2, q, t, hL2, h2⟩
    · exact Or.inl z
    · exact Or.inr ⟨c, Or.inr ⟨by omega, L2, H2, (lqA_v (v := 9) (by decide) d).mpr q, t, hL2, h2⟩⟩
  · rcases ln_10 hT hL1 hy h1 with z | ⟨L2, H2, q, t, hL2, h2⟩
    · exact Or.inl z
    · exact Or.inr ⟨c, Or.inr ⟨by omega, L2, H2, (lqA_v (v := 10) (by decide) d).mpr q, t, hL2, h2⟩⟩
  · rcases ln_11 hT hL1 hy h1 with z | ⟨L2, H2, q, t, hL2, h2⟩
    · exact Or.inl z
    · exact Or.inr ⟨c, Or.inr ⟨by omega, L2, H2, (lqA_v (v := 11) (by decide) d).mpr q, t, hL2, h2⟩⟩
  · rcases ln_12 hT hL1 hy h1 with z | ⟨L2, H2, q, t, hL2, h2⟩
    · exact Or.inl z
    · exact Or.inr ⟨c, Or.inr ⟨by omega, L2, H2, (lqA_v (v := 12) (by decide) d).mpr q, t, hL2, h2⟩⟩
  · rcases ln_13 hT hL1 hy h1 with z | ⟨L2, H2, q, t, hL2, h2⟩
    · exact Or.inl z
    · exact Or.inr ⟨c, Or.inr ⟨by omega, L2, H2, (lqA_v (v := 13) (by decide) d).mpr q, t, hL2, h2⟩⟩
  · rcases ln_14 hT hL1 hy h1 with z | ⟨L2, H2, q, t, hL2, h2⟩
    · exact Or.inl z
    · exact Or.inr ⟨c, Or.inr ⟨by omega, L2, H2, (lqA_v (v := 14) (by decide) d).mpr q, t, hL2, h2⟩⟩
  · rcases ln_15 hT hL1 hy h1 with z | ⟨L2, H2, q, t, hL2, h2⟩
    · exact Or.inl z
    · exact Or.inr ⟨c, Or.inr ⟨by omega, L2, H2, (lqA_v (v := 15) (by decide) d).mpr q, t, hL2, h2⟩⟩
  · rcases ln_16 hT hL1 hy h1 with z | ⟨L2, H2, q, t, hL2, h2⟩
    · exact Or.inl z
    · exact Or.inr ⟨c, Or.inr ⟨by omega, L2, H2, (lqA_v (v := 16) (by decide) d).mpr q, t, hL2, h2⟩⟩
  · rcases ln_17 hT hL1 hy h1 with z | ⟨L2, H2, q, t, hL2, h2⟩
    · exact Or.inl z
    · exact Or.inr ⟨c, Or.inr ⟨by omega, L2, H2, (lqA_v (v := 17) (by decide) d).mpr q, t, hL2, h2⟩⟩
  · rcases ln_18 hT hL1 hy h1 with z | ⟨L2, H2, q, t, hL2, h2⟩
    · exact Or.inl z
    · exact Or.inr ⟨c, Or.inr ⟨by omega, L2, H2, (lqA_v (v := 18) (by decide) d).mpr q, t, hL2, h2⟩⟩
  · rcases ln_19 hT hL1 hy h1 with z | ⟨L2, H2, q, t, hL2, h2⟩
    · exact Or.inl z
    · exact Or.inr ⟨c, Or.inr ⟨by omega, L2, H2, (lqA_v (v := 19) (by decide) d).mpr q, t, hL2, h2⟩⟩
  · rcases ln_20 hT hL1 hy h1 with z | ⟨L2, H2, q, t, hL2, h2⟩
    · exact Or.inl z
    · exact Or.inr ⟨c, Or.inr ⟨by omega, L2, H2, (lqA_v (v := 20) (by decide) d).mpr q, t, hL2, h2⟩⟩
  · rcases ln_21 hT hL1 hy h1 with z | ⟨L2, H2, q, t, hL2, h2⟩
    · exact Or.inl z
    · exact Or.inr ⟨c, Or.inr ⟨by omega, L2, H2, (lqA_v (v := 21) (by decide) d).mpr q, t, hL2, h2⟩⟩
  · rcases ln_22 hT hL1 hy h1 with z | ⟨L2, H2, q, t, hL2, h2⟩
    · exact Or.inl z
    · exact Or.inr ⟨c, Or.inr ⟨by omega, L2, H2, (lqA_v (v := 22) (by decide) d).mpr q, t, hL2, h2⟩⟩
  · rcases ln_23 hT hL1 hy h1 with z | ⟨L2, H2, q, t, hL2, h2⟩
    · exact Or.inl z
    · exact Or.inr ⟨c, Or.inr ⟨by omega, L2, H2, (lqA_v (v := 23) (by decide) d).mpr q, t, hL2, h2⟩⟩
  · rcases ln_24 hT hL1 hy h1 with z | ⟨L2, H2, q, t, hL2, h2⟩
    · exact Or.inl z
    · exact Or.inr ⟨c, Or.inr ⟨by omega, L2, H2, (lqA_v (v := 24) (by decide) d).mpr q, t, hL2, h2⟩⟩
  · rcases ln_25 hT hL1 hy h1 with z | ⟨L2, H2, q, t, hL2, h2⟩
    · exact Or.inl z
    · exact Or.inr ⟨c, Or.inr ⟨by omega, L2, H2, (lqA_v (v := 25) (by decide) d).mpr q, t, hL2, h2⟩⟩
  · rcases ln_26 hT hL1 hy h1 with z | ⟨L2, H2, q, t, hL2, h2⟩
    · exact Or.inl z
    · exact Or.inr ⟨c, Or.inr ⟨by omega, L2, H2, (lqA_v (v := 26) (by decide) d).mpr q, t, hL2, h2⟩⟩
  · rcases ln_27 hT hL1 hy h1 with z | ⟨L2, H2, q, t, hL2, h2⟩
    · exact Or.inl z
    · exact Or.inr ⟨c, Or.inr ⟨by omega, L2, H2, (lqA_v (v := 27) (by decide) d).mpr q, t, hL2, h2⟩⟩
  · rcases ln_28 hT hL1 hy h1 with z | ⟨L2, H2, q, t, hL2, h2⟩
    · exact Or.inl z
    · exact Or.inr ⟨c, Or.inr ⟨by omega, L2, H2, (lqA_v (v := 28) (by decide) d).mpr q, t, hL2, h2⟩⟩
  · exact Or.inr ⟨c, Or.inl ⟨L1, d, hy, hL1, h1⟩⟩
  · rcases ln_30 hT hL1 hy h1 with z | ⟨L2, H2, q, t, hL2, h2⟩
    · exact Or.inl z
    · exact Or.inr ⟨c, Or.inr ⟨by omega, L2, H2, (lqA_v (v := 30) (by decide) d).mpr q, t, hL2, h2⟩⟩
  · rcases ln_31 hT hL1 hy h1 with z | ⟨L2, H2, q, t, hL2, h2⟩
    · exact Or.inl z
    · exact Or.inr ⟨c, Or.inr ⟨by omega, L2, H2, (lqA_v (v := 31) (by decide) d).mpr q, t, hL2, h2⟩⟩
  · rcases ln_32 hT hL1 hy h1 with z | ⟨L2, H2, q, t, hL2, h2⟩
    · exact Or.inl z
    · exact Or.inr ⟨c, Or.inr ⟨by omega, L2, H2, (lqA_v (v := 32) (by decide) d).mpr q, t, hL2, h2⟩⟩
  · rcases ln_33 hT hL1 hy h1 with z | ⟨L2, H2, q, t, hL2, h2⟩
    · exact Or.inl z
    · exact Or.inr ⟨c, Or.inr ⟨by omega, L2, H2, (lqA_v (v := 33) (by decide) d).mpr q, t, hL2, h2⟩⟩
  · rcases ln_34 hT hL1 hy h1 with z | ⟨L2, H2, q, t, hL2, h2⟩
    · exact Or.inl z
    · exact Or.inr ⟨c, Or.inr ⟨by omega, L2, H2, (lqA_v (v := 34) (by decide) d).mpr q, t, hL2, h2⟩⟩
  · rcases ln_35 hT hL1 hy h1 with z | ⟨L2, H2, q, t, hL2, h2⟩
    · exact Or.inl z
    · exact Or.inr ⟨c, Or.inr ⟨by omega, L2, H2, (lqA_v (v := 35) (by decide) d).mpr q, t, hL2, h2⟩⟩
  · rcases ln_36 hT hL1 hy h1 with z | ⟨L2, H2, q, t, hL2, h2⟩
    · exact Or.inl z
    · exact Or.inr ⟨c, Or.inr ⟨by omega, L2, H2, (lqA_v (v := 36) (by decide) d).mpr q, t, hL2, h2⟩⟩
  · rcases ln_37 hT hL1 hy h1 with z | ⟨L2, H2, q, t, hL2, h2⟩
    · exact Or.inl z
    · exact Or.inr ⟨c, Or.inr ⟨by omega, L2, H2, (lqA_v (v := 37) (by decide) d).mpr q, t, hL2, h2⟩⟩
  · rcases ln_38 hT hL1 hy h1 with z | ⟨L2, H2, q, t, hL2, h2⟩
    · exact Or.inl z
    · exact Or.inr ⟨c, Or.inr ⟨by omega, L2, H2, (lqA_v (v := 38) (by decide) d).mpr q, t, hL2, h2⟩⟩
  · rcases ln_39 hT hL1 hy h1 with z | ⟨L2, H2, q, t, hL2, h2⟩
    · exact Or.inl z
    · exact Or.inr ⟨c, Or.inr ⟨by omega, L2, H2, (lqA_v (v := 39) (by decide) d).mpr q, t, hL2, h2⟩⟩
  · rcases ln_40 hT hL1 hy h1 with z | ⟨L2, H2, q, t, hL2, h2⟩
    · exact Or.inl z
    · exact Or.inr ⟨c, Or.inr ⟨by omega, L2, H2, (lqA_v (v := 40) (by decide) d).mpr q, t, hL2, h2⟩⟩
  · rcases ln_41 hT hL1 hy h1 with z | ⟨L2, H2, q, t, hL2, h2⟩
    · exact Or.inl z
    · exact Or.inr ⟨c, Or.inr ⟨by omega, L2, H2, (lqA_v (v := 41) (by decide) d).mpr q, t, hL2, h2⟩⟩
  · rcases ln_42 hT hL1 hy h1 with z | ⟨L2, H2, q, t, hL2, h2⟩
    · exact Or.inl z
    · exact Or.inr ⟨c, Or.inr ⟨by omega, L2, H2, (lqA_v (v := 42) (by decide) d).mpr q, t, hL2, h2⟩⟩
  · rcases ln_43 hT hL1 hy h1 with z | ⟨L2, H2, q, t, hL2, h2⟩
    · exact Or.inl z
    · exact Or.inr ⟨c, Or.inr ⟨by omega, L2, H2, (lqA_v (v := 43) (by decide) d).mpr q, t, hL2, h2⟩⟩
  · rcases ln_44 hT hL1 hy h1 with z | ⟨L2, H2, q, t, hL2, h2⟩
    · exact Or.inl z
    · exact Or.inr ⟨c, Or.inr ⟨by omega, L2, H2, (lqA_v (v := 44) (by decide) d).mpr q, t, hL2, h2⟩⟩
  · rcases ln_45 hT hL1 hy h1 with z | ⟨L2, H2, q, t, hL2, h2⟩
    · exact Or.inl z
    · exact Or.inr ⟨c, Or.inr ⟨by omega, L2, H2, (lqA_v (v := 45) (by decide) d).mpr q, t, hL2, h2⟩⟩
  · rcases ln_46 hT hL1 hy h1 with z | ⟨L2, H2, q, t, hL2, h2⟩
    · exact Or.inl z
    · exact Or.inr ⟨c, Or.inr ⟨by omega, L2, H2, (lqA_v (v := 46) (by decide) d).mpr q, t, hL2, h2⟩⟩
  · rcases ln_47 hT hL1 hy h1 with z | ⟨L2, H2, q, t, hL2, h2⟩
    · exact Or.inl z
    · exact Or.inr ⟨c, Or.inr ⟨by omega, L2, H2, (lqA_v (v := 47) (by decide) d).mpr q, t, hL2, h2⟩⟩
  · rcases ln_48 hT hL1 hy h1 with z | ⟨L2, H2, q, t, hL2, h2⟩
    · exact Or.inl z
    · exact Or.inr ⟨c, Or.inr ⟨by omega, L2, H2, (lqA_v (v := 48) (by decide) d).mpr q, t, hL2, h2⟩⟩
  · rcases ln_49 hT hL1 hy h1 with z | ⟨L2, H2, q, t, hL2, h2⟩
    · exact Or.inl z
    · exact Or.inr ⟨c, Or.inr ⟨by omega, L2, H2, (lqA_v (v := 49) (by decide) d).mpr q, t, hL2, h2⟩⟩
  · rcases ln_50 hT hL1 hy h1 with z | ⟨L2, H2, q, t, hL2, h2⟩
    · exact Or.inl z
    · exact Or.inr ⟨c, Or.inr ⟨by omega, L2, H2, (lqA_v (v := 50) (by decide) d).mpr q, t, hL2, h2⟩⟩
  · rcases ln_51 hT hL1 hy h1 with z | ⟨L2, H2, q, t, hL2, h2⟩
    · exact Or.inl z
    · exact Or.inr ⟨c, Or.inr ⟨by omega, L2, H2, (lqA_v (v := 51) (by decide) d).mpr q, t, hL2, h2⟩⟩
  · rcases ln_52 hT hL1 hy h1 with z | ⟨L2, H2, q, t, hL2, h2⟩
    · exact Or.inl z
    · exact Or.inr ⟨c, Or.inr ⟨by omega, L2, H2, (lqA_v (v := 52) (by decide) d).mpr q, t, hL2, h2⟩⟩
  · rcases ln_53 hT hL1 hy h1 with z | ⟨L2, H2, q, t, hL2, h2⟩
    · exact Or.inl z
    · exact Or.inr ⟨c, Or.inr ⟨by omega, L2, H2, (lqA_v (v := 53) (by decide) d).mpr q, t, hL2, h2⟩⟩
  · rcases ln_54 hT hL1 hy h1 with z | ⟨L2, H2, q, t, hL2, h2⟩
    · exact Or.inl z
    · exact Or.inr ⟨c, Or.inr ⟨by omega, L2, H2, (lqA_v (v := 54) (by decide) d).mpr q, t, hL2, h2⟩⟩
  · rcases ln_55 hT hL1 hy h1 with z | ⟨L2, H2, q, t, hL2, h2⟩
    · exact Or.inl z
    · exact Or.inr ⟨c, Or.inr ⟨by omega, L2, H2, (lqA_v (v := 55) (by decide) d).mpr q, t, hL2, h2⟩⟩
  · rcases ln_56 hT hL1 hy h1 with z | ⟨L2, H2, q, t, hL2, h2⟩
    · exact Or.inl z
    · exact Or.inr ⟨c, Or.inr ⟨by omega, L2, H2, (lqA_v (v := 56) (by decide) d).mpr q, t, hL2, h2⟩⟩
  · rcases ln_57 hT hL1 hy h1 with z | ⟨L2, H2, q, t, hL2, h2⟩
    · exact Or.inl z
    · exact Or.inr ⟨c, Or.inr ⟨by omega, L2, H2, (lqA_v (v := 57) (by decide) d).mpr q, t, hL2, h2⟩⟩
end LWQ

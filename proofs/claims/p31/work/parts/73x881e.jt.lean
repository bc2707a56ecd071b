/-! PC: the JAR's turn -/
section PCJT
variable {m : Nat} {L : mjL} {S : List Value} {H H' H0 H1 H2 Hc Hx Hy : mjH} {r r2 : Option Value ⊕ Nat} {J Q F : Nat} {ru : tgRu} {y : Nat → Int32} {tx : Nat → Nat}
theorem frEndP {MS : List frMt} (aoAll' : ∀ M, M ∈ MS → frOk1 MS M = true) {M : frMt} {s : frS} {pc : Nat} (hM : M ∈ MS) (h0 : M.2.2.2.2.2.2 = []) (hs : frSu M.2.2.2.2.1 (pc, s) = true) (hst : s.2 = []) (hL : frLR s.1 L) (hT : HT H) (h : Pn none m M.1 pc L [] H r H') : frEd M H r H' := by
  rcases frMain aoAll' m M hM 0 pc s hs none L [] H r H' hL (by rw [hst]; trivial) hT h with ih | ⟨p, _, _, _, _, _, a1, _⟩
  · exact ih
  · unfold frSt0 at a1
    rw [h0] at a1
    cases a1
theorem kVO {k0 pc0 : Nat} (v : vO r2) (k : Kt m k0 pc0 L S r2 H2 r H') : Pn none m k0 pc0 L S H2 r H' ∨ ((∃ E, r = .inr E) ∧ H' = H2) := by
  rcases k with ⟨cv, e, k⟩ | ⟨E, e, k1, k2⟩
  · rcases v with v | ⟨E, v⟩
    · rw [v] at e
      cases e
      exact Or.inl k
    · rw [v] at e
      cases e
  · exact Or.inr ⟨⟨E, k1⟩, k2⟩
theorem vO_nt {k pc : Nat} (hk : k ∈ ntKS) (v : vO r) (h : Pn none m k pc L S H r H') : r = .inl none := by
  rcases v with v | ⟨E, v⟩
  · exact v
  · obtain ⟨w, hw⟩ := ntPn ntAll hk h
    rw [v] at hw
    cases hw
/-- the sizes of a JAR's pieces -/
def szO (H : mjH) (J : Nat) : Prop := ∀ q, q < 17 → gI H (J + 2) q = Int32.ofInt (pp (gL H (J + 1) q) : Int)
theorem pc_seL (hJ : J = 3 ∨ J = 11) : ∀ (m q : Nat) (L : mjL) (H : mjH), q ≤ 17 → (∀ i, i < q → gI H (J + 2) i = Int32.ofInt (pp (gL H (J + 1) i) : Int)) → LG L [(0, .ref J), (1, .int (Int32.ofInt (q : Int)))] → HT H → Pn none m 18 2 L [] H r H' → ∃ (m2 : Nat) (L2 : mjL) (H2 : mjH), HT H2 ∧ szO H2 J ∧ LG L2 [(0, .ref J), (1, .int (Int32.ofInt 0))] ∧ Pn none m2 18 31 L2 [] H2 r H'
  | 0, _, _, _, _, _, _, _, h => Pn0 h
  | m + 1, q, L, H, hq, hs, hL, hT, h => by
    have hb := j_zL hT hJ hL h
    have ec : (Int32.ofInt (q : Int)).toNatClampNeg = q := zz_cn
    rw [zz_le, ec] at hb
    rcases hb with ⟨c, L', hL', h'⟩ | ⟨c, -, L', hL', r2, H2, q2, k2⟩
    · have e : q = 17 := by omega
      subst e
      exact ⟨m, L', H, hT, hs, hL', h'⟩
    · have hq2 : q < 17 := by omega
      obtain ⟨e1, e2⟩ := pc_bc hT q2
      rw [e1, e2] at k2
      obtain ⟨-, L3, hL3, h3⟩ := j_z1 hT hJ hL' (Kt_i k2)
      rw [ec] at h3
      rw [zz_add] at hL3
      have kz : kA (J + 2) 100 17 false = true := by rcases hJ with rfl | rfl <;> decide +kernel
      refine pc_seL hJ m (q + 1) L3 _ hq2 (fun i hi => ?_) hL3 (HT.pI hT kz) h3
      by_cases g : i = q
      · subst g
        rw [gI_at hT kz hq2, gL_ne (by omega)]
      · rw [gI_ne (by omega), gL_ne (by omega)]
        exact hs i (by omega)
theorem pc_se (hJ : J = 3 ∨ J = 11) (hT : HT H) (h : Pn none m 18 0 [(0, .ref J)] [] H r H') : HT H' ∧ vO r ∧ szO H' J := by
  obtain ⟨L1, hL1, h1⟩ := j_z0 hT hJ ⟨rfl, trivial⟩ h
  obtain ⟨m2, L2, H2, t2, s2, hL2, h2⟩ := pc_seL hJ m 0 L1 H (Nat.zero_le _) (fun i hi => absurd hi (Nat.not_lt_zero _)) hL1 hT h1
  have fr : HT H' ∧ vO r ∧ ∀ a b, (a = J + 1 ∨ a = J + 2) → b ≤ 100000 → sxEl H' a b = sxEl H2 a b := by
    rcases hJ with rfl | rfl
    · have ed := frEndP (List.all_eq_true.mp jaoAll) (M := jaM1) (s := ([(0, .inl [3]), (1, .inr false)], [])) (pc := 31) jaIn1 rfl (by decide +kernel) rfl (frLR_c hL2.1 ⟨3, List.mem_singleton.mpr rfl, rfl⟩ (frLR_c hL2.2.1 ⟨_, rfl⟩ frLR_n)) t2 h2
      exact ⟨ed.1, lVo ed rfl, fun a b z zb => ed.2.1 a b (djA_ok (F := [(4, 5, 0, 100000)]) (by decide +kernel) (inF_m (f := (4, 5, 0, 100000)) (List.mem_singleton.mpr rfl) (by show 4 ≤ a; omega) (by show a ≤ 5; omega) (Nat.zero_le _) zb))⟩
    · have ed := frEndP (List.all_eq_true.mp jboAll) (M := jbM1) (s := ([(0, .inl [11]), (1, .inr false)], [])) (pc := 31) jbIn1 rfl (by decide +kernel) rfl (frLR_c hL2.1 ⟨11, List.mem_singleton.mpr rfl, rfl⟩ (frLR_c hL2.2.1 ⟨_, rfl⟩ frLR_n)) t2 h2
      exact ⟨ed.1, lVo ed rfl, fun a b z zb => ed.2.1 a b (djA_ok (F := [(12, 13, 0, 100000)]) (by decide +kernel) (inF_m (f := (12, 13, 0, 100000)) (List.mem_singleton.mpr rfl) (by show 12 ≤ a; omega) (by show a ≤ 13; omega) (Nat.zero_le _) zb))⟩
  refine ⟨fr.1, fr.2.1, fun q hq => ?_⟩
  rw [gI_cgE (fr.2.2 (J + 2) q (Or.inr rfl) (by omega)), gL_cgE (fr.2.2 (J + 1) q (Or.inl rfl) (by omega))]
  exact s2 q hq
/-- the reader of a JAR ends with its sizes -/
theorem jr_go (hT : HT H) (q : Pn none m 84 0 [(0, .ref 1)] [] H r H') : HT H' ∧ ∀ cv, r = .inl cv → ∃ x : Int32, cv = some (.int x) := by
  have ed := frEnd (aoAll' := List.all_eq_true.mp jaoAll) (M := jaM5) (s := ([(0, .inl [1])], [])) jaIn5 rfl (by decide +kernel) rfl (frLR_c rfl one1 frLR_n) hT q
  exact ⟨ed.1, fun cv e => lRi ed rfl e⟩
theorem jr_ts {x : Int32} (hT : HT H) (q : Pn none m 90 0 [(0, .ref 1), (1, .int x)] [] H r H') : HT H' ∧ vO r := by
  have ed := frEnd (aoAll' := List.all_eq_true.mp jaoAll) (M := jaM13) (s := ([(0, .inl [1]), (1, .inr false)], [])) jaIn13 rfl (by decide +kernel) rfl (frLR_c rfl one1 (frLR_c rfl ⟨_, rfl⟩ frLR_n)) hT q
  exact ⟨ed.1, lVo ed rfl⟩
theorem jr_cl {x z : Int32} (hJ : J = 3 ∨ J = 11) (hT : HT H) (q : Pn none m 32 0 [(0, .ref 1), (1, .ref J), (2, .int x), (3, .int z)] [] H r H') : HT H' ∧ vO r := by
  rcases hJ with rfl | rfl
  · have ed := frEnd (aoAll' := List.all_eq_true.mp jaoAll) (M := jaM11) (s := ([(0, .inl [1]), (1, .inl [3]), (2, .inr false), (3, .inr false)], [])) jaIn11 rfl (by decide +kernel) rfl (frLR_c rfl one1 (frLR_c rfl ⟨3, List.mem_singleton.mpr rfl, rfl⟩ (frLR_c rfl ⟨_, rfl⟩ (frLR_c rfl ⟨_, rfl⟩ frLR_n)))) hT q
    exact ⟨ed.1, lVo ed rfl⟩
  · have ed := frEnd (aoAll' := List.all_eq_true.mp jboAll) (M := jbM11) (s := ([(0, .inl [1]), (1, .inl [11]), (2, .inr false), (3, .inr false)], [])) jbIn11 rfl (by decide +kernel) rfl (frLR_c rfl one1 (frLR_c rfl ⟨11, List.mem_singleton.mpr rfl, rfl⟩ (frLR_c rfl ⟨_, rfl⟩ (frLR_c rfl ⟨_, rfl⟩ frLR_n)))) hT q
    exact ⟨ed.1, lVo ed rfl⟩
theorem jr_cx (hJ : J = 3 ∨ J = 11) (hT : HT H) (q : Pn none m 16 0 [(0, .ref J)] [] H r H') : HT H' ∧ vO r := by
  rcases hJ with rfl | rfl
  · have ed := frEnd (aoAll' := List.all_eq_true.mp jaoAll) (M := jaM2) (s := ([(0, .inl [3])], [])) jaIn2 rfl (by decide +kernel) rfl (frLR_c rfl ⟨3, List.mem_singleton.mpr rfl, rfl⟩ frLR_n) hT q
    exact ⟨ed.1, lVo ed rfl⟩
  · have ed := frEnd (aoAll' := List.all_eq_true.mp jboAll) (M := jbM2) (s := ([(0, .inl [11])], [])) jbIn2 rfl (by decide +kernel) rfl (frLR_c rfl ⟨11, List.mem_singleton.mpr rfl, rfl⟩ frLR_n) hT q
    exact ⟨ed.1, lVo ed rfl⟩
theorem jr_L (hJ : J = 3 ∨ J = 11) : ∀ (m : Nat) (i2 : Int32) (L : mjL) (H : mjH), LG L [(0, .ref 1), (1, .ref J), (2, .int i2)] → HT H → Pn none m 31 6 L [] H r H' → (∃ E, r = .inr E) ∨ szO H' J
  | 0, _, _, _, _, _, h => Pn0 h
  | m + 1, i2, L, H, hL, hT, h => by
    have se : ∀ (L3 : mjL) (r3 : Option Value ⊕ Nat) (H0 H3 : mjH), HT H0 → Pn none m 18 0 [(0, .ref J)] [] H0 r3 H3 → Kt m 31 60 L3 [] r3 H3 r H' → (∃ E, r = .inr E) ∨ szO H' J := by
      intro L3 r3 H0 H3 t0 q3 k3
      obtain ⟨t3, v3, s3⟩ := pc_se hJ t0 q3
      rcases kVO v3 k3 with k | ⟨e, -⟩
      · obtain ⟨-, e2⟩ := j_r5 t3 trivial k
        rw [e2]
        exact Or.inr s3
      · exact Or.inl e
    have cl : ∀ (x z : Int32) (L3 : mjL) (r3 : Option Value ⊕ Nat) (H0 H3 : mjH), HT H0 → LG L3 [(0, .ref 1), (1, .ref J), (2, .int i2)] → Pn none m 32 0 [(0, .ref 1), (1, .ref J), (2, .int x), (3, .int z)] [] H0 r3 H3 → Kt m 31 44 L3 [] r3 H3 r H' → (∃ E, r = .inr E) ∨ szO H' J := by
      intro x z L3 r3 H0 H3 t0 hL3 q3 k3
      obtain ⟨t3, v3⟩ := jr_cl hJ t0 q3
      rcases kVO v3 k3 with k | ⟨e, -⟩
      rotate_left
      · exact Or.inl e
      obtain ⟨L4, hL4, r4, H4, q4, k4⟩ := j_r3 t3 hJ hL3 k
      obtain ⟨t4, v4⟩ := jr_ts t3 q4
      rcases kVO v4 k4 with k | ⟨e, -⟩
      rotate_left
      · exact Or.inl e
      obtain ⟨L5, hL5, h5⟩ := j_r4 t4 hJ hL4 k
      exact jr_L hJ m _ L5 H4 hL5 t4 h5
    rcases j_rL hT hJ hL h with ⟨-, L1, -, r2, H2, q2, k2⟩ | ⟨-, L1, hL1, r2, H2, q2, k2⟩
    · exact se L1 r2 H H2 hT q2 k2
    · obtain ⟨t2, v2⟩ := jr_go hT q2
      rcases k2 with ⟨cv, e, k⟩ | ⟨E, -, e, -⟩
      rotate_left
      · exact Or.inl ⟨E, e⟩
      obtain ⟨x, hx⟩ := v2 cv e
      rw [hx] at k
      rcases j_r2 t2 hJ hL1 k with ⟨-, L3, -, r3, H3, q3, k3⟩ | ⟨-, ⟨-, ⟨-, L3, hL3, r3, H3, q3, k3⟩ | ⟨-, L3, hL3, r3, H3, q3, k3⟩⟩ | ⟨-, ⟨-, L3, hL3, r3, H3, q3, k3⟩ | ⟨-, L3, hL3, r3, H3, q3, k3⟩⟩⟩
      · exact se L3 r3 H2 H3 t2 q3 k3
      · exact cl _ _ L3 r3 H2 H3 t2 hL3 q3 k3
      · exact cl _ _ L3 r3 H2 H3 t2 hL3 q3 k3
      · exact cl _ _ L3 r3 H2 H3 t2 hL3 q3 k3
      · exact cl _ _ L3 r3 H2 H3 t2 hL3 q3 k3
theorem jd_fr (hJ : J = 3 ∨ J = 11) (hT : HT H) (h : Pn none m 31 0 [(0, .ref 1), (1, .ref J)] [] H r H') : HT H' ∧ r = .inl none ∧ (∀ a b, a ≠ 1 → ¬ (J ≤ a ∧ a ≤ J + 7) → sxEl H' a b = sxEl H a b) ∧ szO H' J := by
  have fin : (∃ E, r = .inr E) ∨ szO H' J := by
    obtain ⟨L1, hL1, r1, H1, q1, k1⟩ := j_r0 hT hJ ⟨rfl, rfl, trivial⟩ h
    obtain ⟨t1, v1⟩ := jr_cx hJ hT q1
    rcases kVO v1 k1 with k | ⟨e, -⟩
    rotate_left
    · exact Or.inl e
    obtain ⟨L2, hL2, h2⟩ := j_r1 t1 hJ hL1 k
    exact jr_L hJ m _ L2 H1 hL2 t1 h2
  have fr : HT H' ∧ vO r ∧ ∀ a b, a ≠ 1 → ¬ (J ≤ a ∧ a ≤ J + 7) → sxEl H' a b = sxEl H a b := by
    rcases hJ with rfl | rfl
    · have ed := frEnd (aoAll' := List.all_eq_true.mp jaoAll) (M := jaM0) (s := ([(0, .inl [1]), (1, .inl [3])], [])) jaIn0 rfl (by decide +kernel) rfl (frLR_c rfl one1 (frLR_c rfl ⟨3, List.mem_singleton.mpr rfl, rfl⟩ frLR_n)) hT h
      refine ⟨ed.1, lVo ed rfl, fun a b z1 z2 => ed.2.1 a b ?_⟩
      cases e : frIn (jaM0).2.2.1 a b with
      | false => rfl
      | true =>
        obtain ⟨p, p1, p2, p3⟩ := inW_ok (W := [(1, 1, 0, 100000), (3, 10, 0, 100000)]) (by decide +kernel) e
        simp only [List.mem_cons, List.not_mem_nil, or_false] at p1
        rcases p1 with rfl | rfl <;> (dsimp only at p2 p3; omega)
    · have ed := frEnd (aoAll' := List.all_eq_true.mp jboAll) (M := jbM0) (s := ([(0, .inl [1]), (1, .inl [11])], [])) jbIn0 rfl (by decide +kernel) rfl (frLR_c rfl one1 (frLR_c rfl ⟨11, List.mem_singleton.mpr rfl, rfl⟩ frLR_n)) hT h
      refine ⟨ed.1, lVo ed rfl, fun a b z1 z2 => ed.2.1 a b ?_⟩
      cases e : frIn (jbM0).2.2.1 a b with
      | false => rfl
      | true =>
        obtain ⟨p, p1, p2, p3⟩ := inW_ok (W := [(1, 1, 0, 100000), (11, 18, 0, 100000)]) (by decide +kernel) e
        simp only [List.mem_cons, List.not_mem_nil, or_false] at p1
        rcases p1 with rfl | rfl <;> (dsimp only at p2 p3; omega)
  have rv := vO_nt nt_JarReader_read fr.2.1 h
  refine ⟨fr.1, rv, fr.2.2, ?_⟩
  rcases fin with ⟨E, z⟩ | z
  · rw [rv] at z
    cases z
  · exact z
/-- frames of the other calls in it -/
theorem inW1 {V : frW} {f : Nat × Nat × Nat × Nat} (h : inW V [f] = true) {a b : Nat} (hn : ¬ ((f.1 ≤ a ∧ a ≤ f.2.1) ∧ f.2.2.1 ≤ b ∧ b ≤ f.2.2.2)) : frIn V a b = false := by
  cases e : frIn V a b with
  | false => rfl
  | true =>
    obtain ⟨p, p1, p2⟩ := inW_ok h e
    cases List.mem_singleton.mp p1
    exact absurd p2 hn
theorem tb_fr {x : Int32} (hT : HT H) (h : Pn none m 82 0 [(0, .ref 1), (1, .int x)] [] H r H') : HT H' ∧ r = .inl none ∧ ∀ a b, a ≠ 1 → sxEl H' a b = sxEl H a b := by
  have ed := lFr (M := lM253) (s := ([(0, .inl [1]), (1, .inr false)], [])) lIn253 rfl (by decide +kernel) rfl (frLR_c rfl one1 (frLR_c rfl ⟨_, rfl⟩ frLR_n)) hT h
  exact ⟨ed.1, vO_nt nt_Tape_begin (lVo ed rfl) h, fun a b z => ed.2.1 a b (inW1 (f := (1, 1, 0, 100000)) (by decide +kernel) (by dsimp only; omega))⟩
theorem sb_fr (hJ : J = 3 ∨ J = 11) (hT : HT H) (h : Pn none m 49 0 [(0, .ref 27), (1, .ref J)] [] H r H') : HT H' ∧ r = .inl none ∧ ∀ a b, ¬ (27 ≤ a ∧ a ≤ 28) → sxEl H' a b = sxEl H a b := by
  have ed := lFr (M := lM333) (s := ([(0, .inl [27]), (1, .inl [3, 11])], [])) lIn333 rfl (by decide +kernel) rfl (frLR_c rfl ⟨27, List.mem_singleton.mpr rfl, rfl⟩ (frLR_c rfl ⟨J, by rcases hJ with rfl | rfl <;> decide, rfl⟩ frLR_n)) hT h
  exact ⟨ed.1, vO_nt nt_Setting_begin (lVo ed rfl) h, fun a b z => ed.2.1 a b (inW1 (f := (27, 28, 0, 100000)) (by decide +kernel) (by dsimp only; omega))⟩
/-- what the class's call comes to -/
def cJ (H Hc : mjH) (Q : Nat) : Prop := HT Hc ∧ ∃ J', ((J' = 3 ∨ J' = 11) ∧ gR Hc 0 2 = J' ∧ gR Hc 0 3 = 14 - J') ∧ szO Hc J' ∧ (gR Hc 0 4 = gR H 0 4 ∧ gR Hc 0 5 = gR H 0 5) ∧ ∀ i, gI Hc (Q + 1) i = gI H (Q + 1) i
/-- .. of the TONGUE: gone where a JAR came, else as it was -/
def cK (H Hc : mjH) (Q : Nat) : Prop := (gI Hc 1 8 = Int32.ofInt 0 ∧ gI Hc Q 0 = Int32.ofInt 0 ∧ gI Hc Q 2 = Int32.ofInt 0) ∨ (¬ gI Hc 1 8 = Int32.ofInt 0 ∧ ∀ b, gI Hc Q b = gI H Q b)
def jnR (y : Int32) (F : Nat) : Prop := 0 ≤ y.toInt ∧ y.toInt ≤ F ∧ y.toInt ≤ 600
theorem jc_cls {yv : Int32} (hF : F ≤ 600) (hf : gI H 1 1 = Int32.ofInt (F : Int)) (hT : HT H) (hJ : J = 3 ∨ J = 11) (j2 : gR H 0 2 = J) (j3 : gR H 0 3 = 14 - J) (hQ : Q = 19 ∨ Q = 23) (q4 : gR H 0 4 = Q) (hS : szO H J) (h : Pn none m 114 0 [(0, .ref 0), (1, .int yv)] [] H r Hc) : cJ H Hc Q ∧ (jnR yv F → cK H Hc Q) ∧ (¬ jnR yv F → ∀ b, gI Hc Q b = gI H Q b) := by
  obtain ⟨Js, hJs⟩ : ∃ Js, Js = 14 - J := ⟨_, rfl⟩
  have hJs2 : Js = 3 ∨ Js = 11 := by omega
  have j3' : gR H 0 3 = Js := by
    rw [hJs]
    exact j3
  -- as it was
  have c0 : ∀ Hy, HT Hy → (∀ a b, a ≠ 1 → a ≠ 30 → ¬ (a = 0 ∧ b = 1) → ¬ (Js ≤ a ∧ a ≤ Js + 7) → sxEl Hy a b = sxEl H a b) → cJ H Hy Q ∧ ∀ b, gI Hy Q b = gI H Q b := by
    intro Hy t e
    refine ⟨⟨t, J, ⟨hJ, (gR_cgE (e 0 2 (by omega) (by omega) (by omega) (by omega))).trans j2, (gR_cgE (e 0 3 (by omega) (by omega) (by omega) (by omega))).trans j3⟩, fun q hq => ?_, ⟨gR_cgE (e 0 4 (by omega) (by omega) (by omega) (by omega)), gR_cgE (e 0 5 (by omega) (by omega) (by omega) (by omega))⟩, fun i => gI_cgE (e (Q + 1) i (by omega) (by omega) (by omega) (by omega))⟩, fun b => gI_cgE (e Q b (by omega) (by omega) (by omega) (by omega))⟩
    rw [gI_cgE (e (J + 2) q (by omega) (by omega) (by omega) (by omega)), gL_cgE (e (J + 1) q (by omega) (by omega) (by omega) (by omega))]
    exact hS q hq
  obtain ⟨L1, hL1, ra, Ha, qa, ka⟩ := a_j0 hT hJs2 hJ hQ j2 j3' q4 ⟨rfl, rfl, trivial⟩ h
  rcases px_nb (M := 600) (by decide) hF hT hf qa with ⟨inR, e3, e4⟩ | ⟨ni, ⟨E, e⟩, ta, fa⟩
  rotate_left
  · rw [e] at ka
    rcases ka with ⟨u, e', -⟩ | ⟨E', e', k1, k2⟩
    · cases e'
    · rw [k2]
      obtain ⟨u1, u2⟩ := c0 Ha ta (fun a b z1 z2 _ _ => fa a b (fun q => z2 q.1))
      exact ⟨u1, fun z => absurd z ni, fun _ => u2⟩
  have inR : jnR yv F := inR
  rw [e3, e4] at ka
  obtain ⟨L2, hL2, rb, Hb, qb, kb⟩ := a_j1 hT hJs2 hJ hQ j2 j3' q4 hL1 (Kt_v ka)
  obtain ⟨tb, vb, fb⟩ := tb_fr hT qb
  rw [vb] at kb
  obtain ⟨L3, hL3, rd, Hd, qd, kd⟩ := a_j2 tb hJs2 hJ hQ ((gR_cgE (fb 0 2 (by decide))).trans j2) ((gR_cgE (fb 0 3 (by decide))).trans j3') ((gR_cgE (fb 0 4 (by decide))).trans q4) hL2 (Kt_v kb)
  obtain ⟨td, vd, fd, sd⟩ := jd_fr hJs2 tb qd
  have fd2 : ∀ a b, a ≠ 1 → ¬ (Js ≤ a ∧ a ≤ Js + 7) → sxEl Hd a b = sxEl H a b := fun a b z1 z3 => (fd a b z1 z3).trans (fb a b z1)
  rw [vd] at kd
  have d2 : gR Hd 0 2 = J := (gR_cgE (fd2 0 2 (by decide) (by omega))).trans j2
  have d3 : gR Hd 0 3 = Js := (gR_cgE (fd2 0 3 (by decide) (by omega))).trans j3'
  have d4 : gR Hd 0 4 = Q := (gR_cgE (fd2 0 4 (by decide) (by omega))).trans q4
  rcases a_j3 td hJs2 hJ hQ d2 d3 d4 hL3 (Kt_v kd) with ⟨g8, L4, hL4, re, He, qe, ke⟩ | ⟨g8, -, e4⟩
  rotate_left
  · rw [e4]
    obtain ⟨u1, u2⟩ := c0 _ (HT.pFI (x := gI Hd 1 9) td kF_0_1_8_false) (fun a b z1 z2 z3 z4 => by
      rw [sxEl_ne z3]
      exact fd2 a b z1 z4)
    refine ⟨u1, fun _ => Or.inr ⟨?_, u2⟩, fun z => absurd inR z⟩
    rw [gI_ne (by omega)]
    exact g8
  -- they change places
  have w1 := HT.pFI (x := gI Hd 1 9) td kF_0_1_8_false
  have w2 := HT.pFR (i := 0) (j := 2) (x := Js) w1 kR_0_2_8__3_11_ (by rcases hJs2 with z | z <;> (rw [z]; decide))
  have w3 := HT.pFR (i := 0) (j := 3) (x := J) w2 kR_0_3_8__3_11_ (by rcases hJ with z | z <;> (rw [z]; decide))
  have fW : ∀ a b, ¬ (a = 0 ∧ (b = 1 ∨ b = 2 ∨ b = 3)) → sxEl (pV (pV (pV Hd 0 1 (.int (gI Hd 1 9))) 0 2 (.ref Js)) 0 3 (.ref J)) a b = sxEl Hd a b := fun a b z => by rw [sxEl_ne (by omega), sxEl_ne (by omega), sxEl_ne (by omega)]
  have gW2 : gR (pV (pV (pV Hd 0 1 (.int (gI Hd 1 9))) 0 2 (.ref Js)) 0 3 (.ref J)) 0 2 = Js := by
    rw [gR_ne (by omega)]
    exact gR_fat w1 kR_0_2_8__3_11_
  have gW3 : gR (pV (pV (pV Hd 0 1 (.int (gI Hd 1 9))) 0 2 (.ref Js)) 0 3 (.ref J)) 0 3 = J := gR_fat w2 kR_0_3_8__3_11_
  obtain ⟨te, ve, fe⟩ := sb_fr hJs2 w3 qe
  rw [ve] at ke
  have e2 : gR He 0 2 = Js := (gR_cgE (fe 0 2 (by omega))).trans gW2
  have e3 : gR He 0 3 = J := (gR_cgE (fe 0 3 (by omega))).trans gW3
  have e4 : gR He 0 4 = Q := (gR_cgE (fe 0 4 (by omega))).trans ((gR_cgE (fW 0 4 (by omega))).trans d4)
  obtain ⟨L5, hL5, rf, Hf, qf, kf⟩ := a_j4 te hJ hJs2 hQ e2 e3 e4 hL4 (Kt_v ke)
  obtain ⟨v5, e5⟩ := g_c0 te hQ ⟨rfl, trivial⟩ qf
  rw [v5] at kf
  have x1 := HT.pFI (x := Int32.ofInt 0) te (kQ0 hQ)
  have x2 : HT Hf := by
    rw [e5]
    exact HT.pFI x1 (kQ2 hQ)
  have fX : ∀ a b, ¬ (a = Q ∧ (b = 0 ∨ b = 2)) → sxEl Hf a b = sxEl He a b := fun a b z => by rw [e5, sxEl_ne (by omega), sxEl_ne (by omega)]
  have f2 : gR Hf 0 2 = Js := (gR_cgE (fX 0 2 (by omega))).trans e2
  have f3 : gR Hf 0 3 = J := (gR_cgE (fX 0 3 (by omega))).trans e3
  have f4 : gR Hf 0 4 = Q := (gR_cgE (fX 0 4 (by omega))).trans e4
  obtain ⟨L6, hL6, rg, Hg, qg, kg⟩ := a_j5 x2 hJ hJs2 hQ f2 f3 f4 hL5 (Kt_v kf)
  have y1 := HT.pFL (x := gL Hf Js 1) x2 kF_0_6_8_true
  have y2 := HT.pFI (x := Int32.ofInt 0) y1 kF_0_9_8_false
  obtain ⟨tg, vg, fg⟩ := fs_fr y2 qg
  rw [vO_nt nt_LotBeliefs_forgetSurveys vg qg] at kg
  have fG : ∀ a b, ¬ (58 ≤ a ∧ a ≤ 77) → ¬ (a = 0 ∧ (b = 6 ∨ b = 9)) → sxEl Hg a b = sxEl Hf a b := fun a b z1 z2 => by rw [fg a b z1, sxEl_ne (by omega), sxEl_ne (by omega)]
  obtain ⟨-, e7⟩ := a_j6 tg hJ hJs2 hQ ((gR_cgE (fG 0 2 (by omega) (by omega))).trans f2) ((gR_cgE (fG 0 3 (by omega) (by omega))).trans f3) ((gR_cgE (fG 0 4 (by omega) (by omega))).trans f4) hL6 (Kt_v kg)
  rw [e7]
  -- all in all
  have all : ∀ a b, ¬ (58 ≤ a ∧ a ≤ 77) → ¬ (27 ≤ a ∧ a ≤ 28) → a ≠ 0 → ¬ (a = Q ∧ (b = 0 ∨ b = 2)) → sxEl Hg a b = sxEl Hd a b := fun a b z1 z2 z3 z4 => by rw [fG a b z1 (by omega), fX a b z4, fe a b z2, fW a b (by omega)]
  refine ⟨⟨tg, Js, ⟨hJs2, (gR_cgE (fG 0 2 (by omega) (by omega))).trans f2, ?_⟩, fun q hq => ?_, ⟨?_, ?_⟩, fun i => ?_⟩, fun _ => Or.inl ⟨?_, ?_, ?_⟩, fun z => absurd inR z⟩
  · rw [gR_cgE (fG 0 3 (by omega) (by omega)), f3]
    omega
  · rw [gI_cgE (all (Js + 2) q (by omega) (by omega) (by omega) (by omega)), gL_cgE (all (Js + 1) q (by omega) (by omega) (by omega) (by omega))]
    exact sd q hq
  · rw [gR_cgE (fG 0 4 (by omega) (by omega)), f4, q4]
  · rw [gR_cgE (fG 0 5 (by omega) (by omega)), gR_cgE (fX 0 5 (by omega)), gR_cgE (fe 0 5 (by omega)), gR_cgE (fW 0 5 (by omega))]
    exact gR_cgE (fd2 0 5 (by omega) (by omega))
  · rw [gI_cgE (all (Q + 1) i (by omega) (by omega) (by omega) (by omega))]
    exact gI_cgE (fd2 (Q + 1) i (by omega) (by omega))
  · rw [gI_cgE (all 1 8 (by omega) (by omega) (by omega) (by omega))]
    exact g8
  · rw [gI_cgE (fG Q 0 (by omega) (by omega)), e5, gI_ne (by omega)]
    exact gI_fat te (kQ0 hQ)
  · rw [gI_cgE (fG Q 2 (by omega) (by omega)), e5]
    exact gI_fat x1 (kQ2 hQ)
/-- the reference's: a JAR stands -/
theorem k82 : kA 82 100 6 false = true := by decide +kernel
theorem k84 : kA 84 100 12 false = true := by decide +kernel
theorem k86 : kA 86 101 17 true = true := by decide +kernel
theorem k88 : kA 88 101 12 true = true := by decide +kernel
theorem k89 : kA 89 101 52 true = true := by decide +kernel
theorem k90 : kA 90 100 12 false = true := by decide +kernel
theorem al_fr {x : Int32} (hT : HT H) (q : Pn none m 215 0 [(0, .int x)] [] H r H') : HT H' ∧ ∀ cv, r = .inl cv → ∃ z : Int64, cv = some (.long z) := by
  have ed := lFr (M := lM368) (s := ([(0, .inr false)], [])) lIn368 rfl (by decide +kernel) rfl (frLR_c rfl ⟨_, rfl⟩ frLR_n) hT q
  exact ⟨ed.1, fun cv e => lRl ed rfl e⟩
theorem zs_A : ∀ (m : Nat) (i : Int32) (L : mjL) (H : mjH), LG L [(0, .ref 78), (1, .int i)] → HT H → Pn none m 224 2 L [] H r H' → ∃ (m2 : Nat) (i2 : Int32) (L2 : mjL) (H2 : mjH), HT H2 ∧ LG L2 [(0, .ref 78), (1, .int i2)] ∧ Pn none m2 224 28 L2 [] H2 r H'
  | 0, _, _, _, _, _, h => Pn0 h
  | m + 1, i, L, H, hL, hT, h => by
    rcases v_zL hT hL h with ⟨-, L1, hL1, h1⟩ | ⟨-, -, L1, hL1, h1⟩
    · exact ⟨m, _, L1, H, hT, hL1, h1⟩
    · exact zs_A m _ L1 _ hL1 (HT.pI hT k82) h1
theorem zs_B : ∀ (m : Nat) (i : Int32) (L : mjL) (H : mjH), LG L [(0, .ref 78), (1, .int i)] → HT H → Pn none m 224 28 L [] H r H' → ∃ (m2 : Nat) (i2 : Int32) (L2 : mjL) (H2 : mjH), HT H2 ∧ LG L2 [(0, .ref 78), (1, .int i2)] ∧ Pn none m2 224 54 L2 [] H2 r H'
  | 0, _, _, _, _, _, h => Pn0 h
  | m + 1, i, L, H, hL, hT, h => by
    rcases v_zL1 hT hL h with ⟨-, L1, hL1, h1⟩ | ⟨-, -, L1, hL1, h1⟩
    · exact ⟨m, _, L1, H, hT, hL1, h1⟩
    · exact zs_B m _ L1 _ hL1 (HT.pL hT k86) h1
theorem zs_C : ∀ (m : Nat) (i : Int32) (L : mjL) (H : mjH), LG L [(0, .ref 78), (1, .int i)] → HT H → Pn none m 224 54 L [] H r H' → ∃ (m2 : Nat) (i2 : Int32) (L2 : mjL) (H2 : mjH), HT H2 ∧ LG L2 [(0, .ref 78), (1, .int i2)] ∧ Pn none m2 224 96 L2 [] H2 r H'
  | 0, _, _, _, _, _, h => Pn0 h
  | m + 1, i, L, H, hL, hT, h => by
    rcases v_zL2 hT hL h with ⟨-, L1, hL1, h1⟩ | ⟨-, -, L1, hL1, h1⟩
    · exact ⟨m, _, L1, H, hT, hL1, h1⟩
    · exact zs_C m _ L1 _ hL1 (HT.pL (HT.pI hT k84) k88) h1
theorem zs_D : ∀ (m : Nat) (i j : Int32) (L : mjL) (H : mjH), LG L [(0, .ref 78), (1, .int i), (2, .int j)] → HT H → Pn none m 224 119 L [] H r H' → ∃ (m2 : Nat) (i2 : Int32) (L2 : mjL) (H2 : mjH), m2 ≤ m ∧ HT H2 ∧ LG L2 [(0, .ref 78), (1, .int i2)] ∧ Pn none m2 224 96 L2 [] H2 r H'
  | 0, _, _, _, _, _, _, h => Pn0 h
  | m + 1, i, j, L, H, hL, hT, h => by
    have nx : ∀ (L1 : mjL) (H1 : mjH), LG L1 [(0, .ref 78), (1, .int i), (2, .int (j + Int32.ofInt 1))] → HT H1 → Pn none m 224 119 L1 [] H1 r H' → ∃ (m2 : Nat) (i2 : Int32) (L2 : mjL) (H2 : mjH), m2 ≤ m + 1 ∧ HT H2 ∧ LG L2 [(0, .ref 78), (1, .int i2)] ∧ Pn none m2 224 96 L2 [] H2 r H' := by
      intro L1 H1 hL1 t1 h1
      obtain ⟨m2, i2, L2, H2, a1, a2, a3, a4⟩ := zs_D m _ _ L1 H1 hL1 t1 h1
      exact ⟨m2, i2, L2, H2, Nat.le_succ_of_le a1, a2, a3, a4⟩
    rcases v_zL4 hT hL h with ⟨-, L1, hL1, h1⟩ | ⟨-, -, -, ⟨-, L1, hL1, h1⟩ | ⟨-, L1, hL1, h1⟩⟩
    · exact ⟨m, _, L1, H, Nat.le_succ m, hT, hL1, h1⟩
    · exact nx L1 _ hL1 (HT.pL hT k89) h1
    · exact nx L1 _ hL1 (HT.pL hT k89) h1
theorem zs_E : ∀ (n m : Nat) (i : Int32) (L : mjL) (H : mjH), m ≤ n → LG L [(0, .ref 78), (1, .int i)] → HT H → Pn none m 224 96 L [] H r H' → (∃ E, r = .inr E) ∨ ∃ (m2 : Nat) (i2 : Int32) (L2 : mjL) (H2 : mjH), HT H2 ∧ LG L2 [(0, .ref 78), (1, .int i2)] ∧ Pn none m2 224 174 L2 [] H2 r H'
  | _, 0, _, _, _, _, _, _, h => Pn0 h
  | 0, m + 1, _, _, _, hm, _, _, _ => absurd hm (by omega)
  | n + 1, m + 1, i, L, H, hm, hL, hT, h => by
    rcases v_zL3 hT hL h with ⟨-, L1, hL1, h1⟩ | ⟨-, L1, hL1, r2, H2, q2, k2⟩
    · exact Or.inr ⟨m, _, L1, H, hT, hL1, h1⟩
    · obtain ⟨t2, v2⟩ := al_fr hT q2
      rcases k2 with ⟨cv, e, k⟩ | ⟨E, -, e, -⟩
      rotate_left
      · exact Or.inl ⟨E, e⟩
      obtain ⟨z, hz⟩ := v2 cv e
      rw [hz] at k
      obtain ⟨-, L3, hL3, h3⟩ := v_z1 t2 hL1 k
      obtain ⟨m4, i4, L4, H4, a1, a2, a3, a4⟩ := zs_D m _ _ L3 _ hL3 (HT.pL t2 k89) h3
      exact zs_E n m4 i4 L4 H4 (by omega) a3 a2 a4
theorem zs_F : ∀ (m : Nat) (i : Int32) (L : mjL) (H : mjH), LG L [(0, .ref 78), (1, .int i)] → HT H → Pn none m 224 174 L [] H r H' → (∃ E, r = .inr E) ∨ (r = .inl none ∧ gI H' 78 25 = Int32.ofInt 0)
  | 0, _, _, _, _, _, h => Pn0 h
  | m + 1, i, L, H, hL, hT, h => by
    rcases v_zL5 hT hL h with ⟨-, L1, hL1, r2, H2, q2, k2⟩ | ⟨-, -, L1, hL1, h1⟩
    · obtain ⟨t2, v2⟩ := al_fr hT q2
      rcases k2 with ⟨cv, e, k⟩ | ⟨E, -, e, -⟩
      rotate_left
      · exact Or.inl ⟨E, e⟩
      obtain ⟨z, hz⟩ := v2 cv e
      rw [hz] at k
      obtain ⟨e1, e2⟩ := v_z2 t2 hL1 k
      refine Or.inr ⟨e1, ?_⟩
      rw [e2, gI_ne (by omega)]
      exact gI_fat (HT.pFL t2 kF_78_20_9_true) kF_78_25_9_false
    · exact zs_F m _ L1 _ hL1 (HT.pI hT k90) h1
theorem zs_all (hT : HT H) (h : Pn none m 224 0 [(0, .ref 78)] [] H r H') : (∃ E, r = .inr E) ∨ (r = .inl none ∧ HT H' ∧ gI H' 78 25 = Int32.ofInt 0 ∧ ∀ a b, a = 78 → b ≤ 8 → sxEl H' a b = sxEl H a b) := by
  have ed := lFr (M := lM350) (s := ([(0, .inl [78])], [])) lIn350 rfl (by decide +kernel) rfl (frLR_c rfl one78 frLR_n) hT h
  have fr : ∀ a b, a = 78 → b ≤ 8 → sxEl H' a b = sxEl H a b := fun a b z1 z2 => ed.2.1 a b (djA_ok (F := [(78, 78, 0, 8)]) (by decide +kernel) (inF_m (f := (78, 78, 0, 8)) (List.mem_singleton.mpr rfl) (by show 78 ≤ a; omega) (by show a ≤ 78; omega) (Nat.zero_le _) z2))
  obtain ⟨L1, hL1, h1⟩ := v_z0 hT ⟨rfl, trivial⟩ h
  obtain ⟨m2, i2, L2, H2, t2, hL2, h2⟩ := zs_A m _ L1 H hL1 hT h1
  obtain ⟨m3, i3, L3, H3, t3, hL3, h3⟩ := zs_B m2 _ L2 H2 hL2 t2 h2
  obtain ⟨m4, i4, L4, H4, t4, hL4, h4⟩ := zs_C m3 _ L3 H3 hL3 t3 h3
  rcases zs_E m4 m4 _ L4 H4 (Nat.le_refl _) hL4 t4 h4 with e | ⟨m5, i5, L5, H5, t5, hL5, h5⟩
  · exact Or.inl e
  rcases zs_F m5 _ L5 H5 hL5 t5 h5 with e | ⟨e1, e2⟩
  · exact Or.inl e
  · exact Or.inr ⟨e1, ed.1, e2, fr⟩
/-- the reference's call -/
def rK (w : Int32) (H' : mjH) : Prop := ((gI H' 78 5 = Int32.ofInt 0 ∧ gI H' 78 25 = Int32.ofInt 0) ∨ (¬ gI H' 78 5 = Int32.ofInt 0 ∧ gI H' 78 25 = w)) ∧ gI H' 78 0 = Int32.ofInt 0
theorem rj_tx {M : frMt} {s : frS} (hM : M ∈ lMs) (h0 : M.2.2.2.2.2.2 = []) (hs : frSu M.2.2.2.2.1 (0, s) = true) (hst : s.2 = []) (hL : frLR s.1 L) (hr : M.2.2.2.1 = none) (hW : djA [(78, 78, 0, 0), (78, 78, 25, 25)] M.2.2.1 = true) (hT : HT H) (h : Pn none m M.1 0 L [] H r H') : HT H' ∧ vO r ∧ gI H' 78 0 = gI H 78 0 ∧ gI H' 78 25 = gI H 78 25 := by
  have ed := lFr hM h0 hs hst hL hT h
  exact ⟨ed.1, lVo ed hr, gI_cgE (ed.2.1 78 0 (djA_ok hW (inF_m (f := (78, 78, 0, 0)) (by simp) (Nat.le_refl _) (Nat.le_refl _) (Nat.le_refl _) (Nat.le_refl _)))), gI_cgE (ed.2.1 78 25 (djA_ok hW (inF_m (f := (78, 78, 25, 25)) (by simp) (Nat.le_refl _) (Nat.le_refl _) (Nat.le_refl _) (Nat.le_refl _))))⟩
theorem rj_L {w : Int32} : ∀ (m : Nat) (L : mjL) (H : mjH), LG L [(0, .ref 78)] → HT H → gI H 78 0 = Int32.ofInt 0 → gI H 78 25 = w → Pn none m 223 42 L [] H r H' → (∃ E, r = .inr E) ∨ rK w H'
  | 0, _, _, _, _, _, _, h => Pn0 h
  | m + 1, L, H, hL, hT, h0, h25, h => by
    have ok : ∀ (L1 : mjL) (r2 : Option Value ⊕ Nat) (H2 : mjH), gI H 78 5 = Int32.ofInt 0 → LG L1 [(0, .ref 78)] → Pn none m 224 0 [(0, .ref 78)] [] (pV H 78 3 (.int (gI H 78 6))) r2 H2 → Kt m 223 98 L1 [] r2 H2 r H' → (∃ E, r = .inr E) ∨ rK w H' := by
      intro L1 r2 H2 g hL1 q k
      rcases zs_all (HT.pFI hT kF_78_3_9_false) q with ⟨E, e⟩ | ⟨e, t2, z1, z2⟩
      · rw [e] at k
        rcases k with ⟨u, e', -⟩ | ⟨E', -, e', -⟩
        · cases e'
        · exact Or.inl ⟨E', e'⟩
      · rw [e] at k
        obtain ⟨-, e2⟩ := v_r7 t2 hL1 (Kt_v k)
        rw [e2]
        refine Or.inr ⟨Or.inl ⟨?_, z1⟩, ?_⟩
        · rw [gI_cgE (z2 78 5 rfl (by decide)), gI_ne (by omega)]
          exact g
        · rw [gI_cgE (z2 78 0 rfl (by decide)), gI_ne (by omega)]
          exact h0
    have no : ¬ gI H 78 5 = Int32.ofInt 0 → H' = pV H 78 3 (.int (gI H 78 6)) → (∃ E, r = .inr E) ∨ rK w H' := by
      intro g e
      rw [e]
      refine Or.inr ⟨Or.inr ⟨?_, ?_⟩, ?_⟩
      · rw [gI_ne (by omega)]
        exact g
      · rw [gI_ne (by omega)]
        exact h25
      · rw [gI_ne (by omega)]
        exact h0
    rcases v_rL hT hL h with ⟨g, ⟨z, -⟩ | ⟨-, -, e2⟩⟩ | ⟨g, ⟨-, ⟨g2, L1, hL1, r2, H2, q2, k2⟩ | ⟨z, -⟩⟩ | ⟨-, L1, hL1, r2, H2, q2, k2⟩⟩
    · exact absurd z g
    · exact no g e2
    · exact ok L1 r2 H2 g2 hL1 q2 k2
    · exact absurd z g
    · obtain ⟨t2, v2, a1, a2⟩ := rj_tx (M := lM349) (s := ([(0, .inl [78])], [])) lIn349 rfl (by decide +kernel) rfl (frLR_c rfl one78 frLR_n) rfl (by decide +kernel) hT q2
      rcases kVO v2 k2 with k | ⟨e, -⟩
      rotate_left
      · exact Or.inl e
      obtain ⟨L3, hL3, r3, H3, q3, k3⟩ := v_r5 t2 hL1 k
      obtain ⟨t3, v3, b1, b2⟩ := rj_tx (M := lM308) (s := ([(0, .inl [78])], [])) lIn308 rfl (by decide +kernel) rfl (frLR_c rfl one78 frLR_n) rfl (by decide +kernel) t2 q3
      rcases kVO v3 k3 with k | ⟨e, -⟩
      rotate_left
      · exact Or.inl e
      obtain ⟨L4, hL4, h4⟩ := v_r6 t3 hL3 k
      exact rj_L m L4 H3 hL4 t3 (b1.trans (a1.trans h0)) (b2.trans (a2.trans h25)) h4
theorem rj_cls {yv : Int32} (hF : F ≤ 600) (hT : HT H) (h1 : gI H 78 1 = Int32.ofInt (F : Int)) (h : Pn none m 223 0 [(0, .ref 78), (1, .int yv)] [] H r H') : (jnR yv F → (∃ E, r = .inr E) ∨ rK (gI H 78 25) H') ∧ (¬ jnR yv F → gI H' 78 25 = gI H 78 25) := by
  have hy1 := Int32.le_toInt yv
  have hy2 := Int32.toInt_lt yv
  obtain ⟨L1, hL1, r1, H1, q1, k1⟩ := v_r0 hT ⟨rfl, rfl, trivial⟩ h
  have t0 := HT.pFI (x := Int32.ofInt 0) hT kF_78_0_9_false
  have th0 : gI (pV H 78 0 (.int (Int32.ofInt 0))) 78 0 = Int32.ofInt 0 := gI_fat hT kF_78_0_9_false
  have h25 : gI (pV H 78 0 (.int (Int32.ofInt 0))) 78 25 = gI H 78 25 := gI_ne (by omega)
  rw [h1, zz_of yv] at q1
  obtain ⟨d1, d2⟩ := py_in t0 ⟨by omega, by omega, by omega⟩ q1
  rw [d2] at k1
  rcases d1 with ⟨g, e⟩ | ⟨g, e⟩
  · refine ⟨fun _ => ?_, fun z => absurd ⟨g.1, g.2, by omega⟩ z⟩
    rw [e] at k1
    rcases v_r1 t0 hL1 (Kt_i k1) with ⟨-, L2, hL2, r2, H2, q2, k2⟩ | ⟨z, -⟩
    rotate_left
    · exact absurd i1_ne z
    obtain ⟨e3, e4⟩ := py_bd0 t0 th0 q2
    rw [e3, e4] at k2
    rcases v_r2 t0 hL2 (Kt_i k2) with ⟨-, L3, hL3, r3, H3, q3, k3⟩ | ⟨z, -⟩
    rotate_left
    · exact absurd rfl z
    obtain ⟨t3, v3, a1, a2⟩ := rj_tx (M := lM278) (s := ([(0, .inl [78]), (1, .inr false)], [])) lIn278 rfl (by decide +kernel) rfl (frLR_c rfl one78 (frLR_c rfl ⟨_, rfl⟩ frLR_n)) rfl (by decide +kernel) t0 q3
    rcases kVO v3 k3 with k | ⟨e, -⟩
    rotate_left
    · exact Or.inl e
    obtain ⟨L4, hL4, r4, H4, q4, k4⟩ := v_r3 t3 hL3 k
    obtain ⟨t4, v4, b1, b2⟩ := rj_tx (M := lM318) (s := ([(0, .inl [78])], [])) lIn318 rfl (by decide +kernel) rfl (frLR_c rfl one78 frLR_n) rfl (by decide +kernel) t3 q4
    rcases kVO v4 k4 with k | ⟨e, -⟩
    rotate_left
    · exact Or.inl e
    exact rj_L m L4 H4 hL4 t4 (b1.trans (a1.trans th0)) (b2.trans (a2.trans h25)) k
  · refine ⟨fun z => absurd ⟨z.1, z.2.1⟩ g, fun _ => ?_⟩
    rw [e] at k1
    rcases v_r1 t0 hL1 (Kt_i k1) with ⟨z, -⟩ | ⟨-, L2, hL2, r2, H2, q2, k2⟩
    · exact absurd rfl z
    obtain ⟨e3, t2, -, f2⟩ := py_bd1 i1_ne t0 th0 q2
    rw [e3] at k2
    rcases v_r2 t2 hL2 (Kt_i k2) with ⟨z, -⟩ | ⟨-, -, e4⟩
    · exact absurd z i1_ne
    · rw [e4, gI_cgE (f2 78 25 (by omega) (by omega))]
      exact h25
/-- the law's wrapper -/
theorem jw_wr (hT : HT H) (q : Pn none m 330 0 [(0, .ref 0), (1, .int (y 1)), (2, .ref 578)] [] H r H1) : ∃ rc Hc, Pn none m 114 0 [(0, .ref 0), (1, .int (y 1))] [] H rc Hc ∧ HT Hc ∧ (∀ a b, a ≠ 578 → sxEl H1 a b = sxEl Hc a b) := by
  obtain ⟨L1, hL1, rc, Hc, qc, kc⟩ := a_y0 hT ⟨rfl, rfl, rfl, trivial⟩ q
  have ed := lFr (M := lM117) (s := ([(0, .inl [0]), (1, .inr false)], [])) lIn117 rfl (by decide +kernel) rfl (frLR_c rfl ⟨0, List.mem_singleton.mpr rfl, rfl⟩ (frLR_c rfl ⟨_, rfl⟩ frLR_n)) hT qc
  refine ⟨rc, Hc, qc, ed.1, ?_⟩
  rcases kc with ⟨cv, e, k⟩ | ⟨E, e, k⟩
  · obtain ⟨s0, hs⟩ := lRi ed rfl e
    rw [hs] at k
    obtain ⟨-, -, e2⟩ := a_y1 ed.1 hL1 k
    intro a b z
    rw [e2, sxEl_ne (fun q => z q.1)]
  · rcases kEx_one (hpc := 12) (by decide +kernel) k with ⟨e1, e2⟩ | ⟨j, y', e1, h⟩ | ⟨j, y', e1, h⟩
    · intro a b z
      rw [e2]
    · obtain ⟨-, e2⟩ := a_yH ed.1 trivial h
      intro a b z
      rw [e2]
    · rw [show mjAtI 330 12 = some (.astore_n 3, 1, 0, 0, 0) by decide +kernel] at e1
      cases e1
theorem cj_fr {yv : Int32} (hT : HT H) (h : Pn none m 114 0 [(0, .ref 0), (1, .int yv)] [] H r H') : (∀ b, b ≤ 100000 → sxEl H' 78 b = sxEl H 78 b) ∧ ∀ a b, 96 ≤ a → a ≤ 577 → b ≤ 100000 → sxEl H' a b = sxEl H a b := by
  have ed := lFr (M := lM117) (s := ([(0, .inl [0]), (1, .inr false)], [])) lIn117 rfl (by decide +kernel) rfl (frLR_c rfl ⟨0, List.mem_singleton.mpr rfl, rfl⟩ (frLR_c rfl ⟨_, rfl⟩ frLR_n)) hT h
  exact ⟨fun b z3 => ed.2.1 78 b (djA_ok (F := [(78, 78, 0, 100000)]) (by decide +kernel) (inF_m (f := (78, 78, 0, 100000)) (List.mem_singleton.mpr rfl) (Nat.le_refl _) (Nat.le_refl _) (Nat.zero_le _) z3)), fun a b z1 z2 z3 => ed.2.1 a b (djA_ok (F := [(96, 577, 0, 100000)]) (by decide +kernel) (inF_m (f := (96, 577, 0, 100000)) (List.mem_singleton.mpr rfl) z1 z2 (Nat.zero_le _) z3))⟩
theorem rj_fr {yv : Int32} (hT : HT H) (h : Pn none m 223 0 [(0, .ref 78), (1, .int yv)] [] H r H') : HT H' ∧ (∀ a b, a ≤ 77 → b ≤ 100000 → sxEl H' a b = sxEl H a b) ∧ ∀ a b, 96 ≤ a → a ≤ 337 → b ≤ 100000 → sxEl H' a b = sxEl H a b := by
  have ed := lFr (M := lM169) (s := ([(0, .inl [78]), (1, .inr false)], [])) lIn169 rfl (by decide +kernel) rfl (frLR_c rfl one78 (frLR_c rfl ⟨_, rfl⟩ frLR_n)) hT h
  exact ⟨ed.1, fun a b z2 z3 => ed.2.1 a b (djA_ok (F := [(0, 77, 0, 100000)]) (by decide +kernel) (inF_m (f := (0, 77, 0, 100000)) (List.mem_singleton.mpr rfl) (Nat.zero_le _) z2 (Nat.zero_le _) z3)), fun a b z1 z2 z3 => ed.2.1 a b (djA_ok (F := [(96, 337, 0, 100000)]) (by decide +kernel) (inF_m (f := (96, 337, 0, 100000)) (List.mem_singleton.mpr rfl) z1 z2 (Nat.zero_le _) z3))⟩
/-- the JAR's turn; that both sides find a fault, or none, is found otherwise -/
theorem turn1 (hI : pI H J Q ru) (ht : tpI H tx F) (hz : gI H2 78 0 = Int32.ofInt 0 → gI H2 1 8 = gI H2 78 5) (q : lq_1 y H H2) : ∃ J' ru', pI H2 J' Q ru' := by
  obtain ⟨m1, m2, r1, r2, H1, q1, q2, -, v2, e2⟩ := q
  obtain ⟨hT, ⟨hJ, j2, j3⟩, ⟨hQ, g4, g5⟩, hS, hO, hN, hC, hR⟩ := hI
  have Fle := ht.1.1
  obtain ⟨rc, Hc, qc, tc, fw⟩ := jw_wr hT q1
  have t1 : HT H1 := (lg_1a hT q1).1
  obtain ⟨cf0, cf⟩ := cj_fr hT qc
  obtain ⟨t2, rf, rf2⟩ := rj_fr t1 q2
  obtain ⟨⟨-, J', ⟨a1, a2, a3⟩, aS, ⟨a4, a5⟩, aC⟩, aY, aN⟩ := jc_cls Fle ht.1.2.1 hT hJ j2 j3 hQ g4 hS qc
  have h781 : gI H1 78 1 = Int32.ofInt (F : Int) := (gI_cgE (fw 78 1 (by decide))).trans ((gI_cgE (cf0 1 (by decide))).trans ht.1.2.2)
  have h7825 : gI H1 78 25 = gI H 78 25 := (gI_cgE (fw 78 25 (by decide))).trans (gI_cgE (cf0 25 (by decide)))
  obtain ⟨rY, rN⟩ := rj_cls Fle t1 h781 q2
  have cl : ∀ a b, a ≤ 77 → b ≤ 100000 → sxEl H2 a b = sxEl Hc a b := fun a b z1 z2 => (rf a b z1 z2).trans (fw a b (by omega))
  have rl : ∀ a b, 96 ≤ a → a ≤ 337 → b ≤ 100000 → sxEl H2 a b = sxEl H a b := fun a b z1 z2 z3 => (rf2 a b z1 z2 z3).trans ((fw a b (by omega)).trans (cf a b z1 (by omega) z3))
  have fin : ∀ ru', (tgOk ru' ∧ ruB ru') → gI H2 Q 0 = Int32.ofInt (ru'.length : Int) → codG H2 Q (tgCode ru') → tmRu H2 ru' (frO ru') → pI H2 J' Q ru' := by
    intro ru' o1 n1 c1 r1
    refine ⟨t2, ⟨a1, (gR_cgE (cl 0 2 (by omega) (by omega))).trans a2, (gR_cgE (cl 0 3 (by omega) (by omega))).trans a3⟩, ⟨hQ, ((gR_cgE (cl 0 4 (by omega) (by omega))).trans a4).trans g4, ((gR_cgE (cl 0 5 (by omega) (by omega))).trans a5).trans g5⟩, fun q hq => ?_, o1, n1, c1, r1⟩
    rw [gL_cgE (cl (J' + 1) q (by omega) (by omega)), gI_cgE (cl (J' + 2) q (by omega) (by omega))]
    exact aS q hq
  -- as it was
  have same : (∀ b, gI Hc Q b = gI H Q b) → gI H2 78 25 = gI H 78 25 → ∃ J' ru', pI H2 J' Q ru' := by
    intro aQ w
    have n0 : gI H2 Q 0 = Int32.ofInt (ru.length : Int) := (gI_cgE (cl Q 0 (by omega) (by omega))).trans ((aQ 0).trans hN)
    refine ⟨J', ru, fin ru hO n0 ⟨(gI_cgE (cl Q 2 (by omega) (by omega))).trans ((aQ 2).trans hC.1), hC.2.1, fun i c hi => ?_⟩ (tm_cg hR w (fun a b z zb => rl a b (by omega) (by omega) zb))⟩
    have l0 := (List.getElem?_eq_some_iff.mp hi).1
    have l1 := hC.2.1
    exact (gI_cgE (cl (Q + 1) i (by omega) (by omega))).trans ((aC i).trans (hC.2.2 i c hi))
  by_cases hr : jnR (y 1) F
  rotate_left
  · exact same (aN hr) ((rN hr).trans h7825)
  have rY := (rY hr).resolve_left (fun ⟨E, e⟩ => by
    rw [e2] at e
    cases e)
  obtain ⟨rY, r0⟩ := rY
  have pr := hz r0
  have p18 : gI H2 1 8 = gI Hc 1 8 := gI_cgE (cl 1 8 (by omega) (by omega))
  rcases aY hr with ⟨c8, b0, b2⟩ | ⟨c8, aQ⟩
  · rcases rY with ⟨-, w⟩ | ⟨w5, -⟩
    rotate_left
    · exact absurd (pr.symm.trans (p18.trans c8)) w5
    have n0 : gI H2 Q 0 = Int32.ofInt 0 := (gI_cgE (cl Q 0 (by omega) (by omega))).trans b0
    exact ⟨J', [], fin [] ⟨fun q hq => by cases hq, fun q hq => by cases hq⟩ n0 ⟨(gI_cgE (cl Q 2 (by omega) (by omega))).trans b2, Nat.zero_le _, fun i c hi => by cases hi⟩ ⟨⟨w, Nat.zero_le _⟩, fun i q hq => by cases hq⟩⟩
  · rcases rY with ⟨w5, -⟩ | ⟨-, w⟩
    · exact absurd (p18.symm.trans (pr.trans w5)) c8
    · exact same aQ (w.trans h7825)
end PCJT

/-! PC: the TONGUE's turn -/
section PCTT
variable {m : Nat} {L : mjL} {S : List Value} {H H' H1 H2 Hc : mjH} {r r2 : Option Value ⊕ Nat} {tx : Nat → Nat} {n F J Q : Nat} {ru : tgRu} {y : Nat → Int32}
/-- behind what was caught in a method with one handler -/
theorem kEx_one {sc : Option (List Int32)} {k pc E hpc : Nat} (hh : (kHh k).all (fun q => Nat.beq q.2.2.1 hpc) = true) (h : kEx sc m k pc L E H2 r H') : (r = .inr E ∧ H' = H2) ∨ (∃ j y, mjAtI k hpc = some (.astore_n j, y) ∧ Pn sc m k (hpc + 1) (mjDel (j : Nat) L) [] H2 r H') ∨ ∃ j y, mjAtI k hpc = some (.astore j, y) ∧ Pn sc m k (hpc + 2) (mjDel j L) [] H2 r H' := by
  unfold kEx at h
  split at h
  · exact Or.inl h
  · rename_i q e
    obtain ⟨p, p1, p2⟩ := mjCatch_in (k := k) (hh := kHh k) (fun q hq => (List.of_mem_zip (show (q.1, q.2) ∈ _ from hq)).1) e
    have p3 := Nat.eq_of_beq_eq_true (List.all_eq_true.mp hh p p1)
    have e2 : q = hpc := by omega
    rw [e2] at h
    exact Or.inr h
/-- the law's wrapper writes nothing but the answer's place -/
theorem tw_wr (hT : HT H) (q : Pn none m 332 0 [(0, .ref 0), (1, .int (y 1)), (2, .ref 578)] [] H r H1) : ∃ rc Hc, Pn none m 116 0 [(0, .ref 0), (1, .int (y 1))] [] H rc Hc ∧ HT Hc ∧ (∀ a b, a ≠ 578 → sxEl H1 a b = sxEl Hc a b) := by
  obtain ⟨L1, hL1, rc, Hc, qc, kc⟩ := a_t0 hT ⟨rfl, rfl, rfl, trivial⟩ q
  have ed := lFr (M := lM119) (s := ([(0, .inl [0]), (1, .inr false)], [])) lIn119 rfl (by decide +kernel) rfl (frLR_c rfl ⟨0, List.mem_singleton.mpr rfl, rfl⟩ (frLR_c rfl ⟨_, rfl⟩ frLR_n)) hT qc
  refine ⟨rc, Hc, qc, ed.1, ?_⟩
  rcases kc with ⟨cv, e, k⟩ | ⟨E, e, k⟩
  · obtain ⟨s0, hs⟩ := lRi ed rfl e
    rw [hs] at k
    obtain ⟨-, -, e2⟩ := a_t1 ed.1 hL1 k
    intro a b z
    rw [e2, sxEl_ne (fun q => z q.1)]
  · rcases kEx_one (hpc := 12) (by decide +kernel) k with ⟨e1, e2⟩ | ⟨j, y', e1, h⟩ | ⟨j, y', e1, h⟩
    · intro a b z
      rw [e2]
    · obtain ⟨-, e2⟩ := a_tH ed.1 trivial h
      intro a b z
      rw [e2]
    · rw [show mjAtI 332 12 = some (.astore_n 3, 1, 0, 0, 0) by decide +kernel] at e1
      cases e1
/-- in range, both sides -/
def tnR (y : Int32) (F : Nat) : Prop := 0 ≤ y.toInt ∧ y.toInt ≤ F ∧ y.toInt ≤ 200
/-- the reference's call, up to its rules -/
theorem py_tong {yv : Int32} (hT : HT H) (hF : F ≤ 600) (h1 : gI H 78 1 = Int32.ofInt (F : Int)) (h : Pn none m 236 0 [(0, .ref 78), (1, .int yv)] [] H r H') : (¬ tnR yv F ∧ HT H' ∧ ∀ a b, ¬ (a = 78 ∧ b = 0) → a ≠ 80 → sxEl H' a b = sxEl H a b) ∨ (tnR yv F ∧ ∃ (H0 : mjH) (L2 : mjL) (r3 : Option Value ⊕ Nat) (H3 : mjH), HT H0 ∧ (∀ a b, ¬ (a = 78 ∧ b = 0) → sxEl H0 a b = sxEl H a b) ∧ LG L2 [(0, .ref 78)] ∧ Pn none m 214 0 [(0, .ref 78), (1, .int yv)] [] H0 r3 H3 ∧ Kt m 236 45 L2 [] r3 H3 r H') := by
  have hy1 := Int32.le_toInt yv
  have hy2 := Int32.toInt_lt yv
  obtain ⟨L1, hL1, r1, H1, q1, k1⟩ := h_t0 hT ⟨rfl, rfl, trivial⟩ h
  have t0 := HT.pFI (x := Int32.ofInt 0) hT kF_78_0_9_false
  have f0 : ∀ a b, ¬ (a = 78 ∧ b = 0) → sxEl (pV H 78 0 (.int (Int32.ofInt 0))) a b = sxEl H a b := fun a b z => sxEl_ne z
  rw [h1, zz_of yv] at q1
  obtain ⟨d1, d2⟩ := py_in t0 ⟨by omega, by omega, by omega⟩ q1
  rw [d2] at k1
  have th0 : gI (pV H 78 0 (.int (Int32.ofInt 0))) 78 0 = Int32.ofInt 0 := gI_fat hT kF_78_0_9_false
  -- refused
  have ref : ∀ (L2 : mjL) (r3 : Option Value ⊕ Nat) (H3 : mjH), LG L2 [(0, .ref 78), (1, .int yv)] → Pn none m 197 0 [(0, .ref 78), (1, .int (Int32.ofInt 1)), (2, .int (Int32.ofInt 1)), (3, .int (Int32.ofInt 1))] [] (pV H 78 0 (.int (Int32.ofInt 0))) r3 H3 → Kt m 236 35 L2 [] r3 H3 r H' → HT H' ∧ ∀ a b, ¬ (a = 78 ∧ b = 0) → a ≠ 80 → sxEl H' a b = sxEl H a b := by
    intro L2 r3 H3 hL2 q k
    have hb := a_x0 t0 ⟨rfl, rfl, rfl, rfl, trivial⟩ q
    rw [th0] at hb
    rcases hb with ⟨z, -⟩ | ⟨-, ⟨z, -⟩ | ⟨-, -, ⟨z, -⟩ | ⟨-, e1, e2⟩⟩⟩
    · exact absurd z (by decide)
    · exact absurd rfl z
    · exact absurd z (by decide)
    rw [e1] at k
    have t3 : HT H3 := by
      rw [e2]
      exact HT.pI (HT.pFI t0 kF_78_0_9_false) (by decide +kernel : kA 80 100 3 false = true)
    obtain ⟨-, -, e4⟩ := fZ (h_t2 t3 hL2 (Kt_i k))
    rw [e4]
    refine ⟨t3, fun a b z1 z2 => ?_⟩
    rw [e2, sxEl_ne (fun z => z2 z.1), sxEl_ne z1]
    exact f0 a b z1
  rcases d1 with ⟨g, d1⟩ | ⟨g, d1⟩
  · rw [d1] at k1
    have hb := fZ (h_t1 t0 hL1 (Kt_i k1))
    obtain ⟨-, hb⟩ := hb
    rw [zz_of yv, zz_le, ← zz_of yv] at hb
    rcases hb with ⟨g2, L2, hL2, r3, H3, q3, k3⟩ | ⟨g2, L2, hL2, r3, H3, q3, k3⟩
    · have hb := a_x0 t0 ⟨rfl, rfl, rfl, rfl, trivial⟩ q3
      rw [th0] at hb
      rcases hb with ⟨-, ⟨-, e1, e2⟩ | ⟨z, -⟩⟩ | ⟨z, -⟩
      rotate_left
      · exact absurd rfl z
      · exact absurd rfl z
      rw [e1, e2] at k3
      obtain ⟨-, L4, hL4, r4, H4, q4, k4⟩ := fO (h_t2 t0 hL2 (Kt_i k3))
      exact Or.inr ⟨⟨by omega, by omega, by omega⟩, _, L4, r4, H4, t0, f0, hL4, q4, k4⟩
    · exact Or.inl ⟨fun z => g2 z.2.2, ref L2 r3 H3 hL2 q3 k3⟩
  · rw [d1] at k1
    obtain ⟨-, L2, hL2, r3, H3, q3, k3⟩ := fO (h_t1 t0 hL1 (Kt_i k1))
    exact Or.inl ⟨fun z => g ⟨z.1, z.2.1⟩, ref L2 r3 H3 hL2 q3 k3⟩
/-- what reading into a TONGUE leaves alone: the class -/
theorem rd_fr (hQ : Q = 19 ∨ Q = 23) (hT : HT H) (h : Pn none m 102 0 [(0, .ref 1), (1, .ref Q)] [] H r H') : HT H' ∧ ∀ a b, a ≠ 1 → a ≠ Q → a ≠ Q + 1 → sxEl H' a b = sxEl H a b := by
  rcases hQ with rfl | rfl
  · have ed := frEnd (aoAll' := List.all_eq_true.mp aoAll) (M := aM0) (s := ([(0, .inl [1]), (1, .inl [19])], [])) aIn0 rfl (by decide +kernel) rfl (frLR_c rfl one1 (frLR_c rfl ⟨19, List.mem_singleton.mpr rfl, rfl⟩ frLR_n)) hT h
    refine ⟨ed.1, fun a b z1 z2 z3 => ed.2.1 a b ?_⟩
    cases e : frIn (aM0).2.2.1 a b with
    | false => rfl
    | true =>
      obtain ⟨p, p1, p2, p3⟩ := inW_ok (W := [(1, 1, 0, 100000), (19, 20, 0, 100000)]) (by decide +kernel) e
      simp only [List.mem_cons, List.not_mem_nil, or_false] at p1
      rcases p1 with rfl | rfl <;> (dsimp only at p2 p3; omega)
  · have ed := frEnd (aoAll' := List.all_eq_true.mp boAll) (M := bM0) (s := ([(0, .inl [1]), (1, .inl [23])], [])) bIn0 rfl (by decide +kernel) rfl (frLR_c rfl one1 (frLR_c rfl ⟨23, List.mem_singleton.mpr rfl, rfl⟩ frLR_n)) hT h
    refine ⟨ed.1, fun a b z1 z2 z3 => ed.2.1 a b ?_⟩
    cases e : frIn (bM0).2.2.1 a b with
    | false => rfl
    | true =>
      obtain ⟨p, p1, p2, p3⟩ := inW_ok (W := [(1, 1, 0, 100000), (23, 24, 0, 100000)]) (by decide +kernel) e
      simp only [List.mem_cons, List.not_mem_nil, or_false] at p1
      rcases p1 with rfl | rfl <;> (dsimp only at p2 p3; omega)
theorem fs_fr (hT : HT H) (h : Pn none m 191 0 [(0, .ref 0)] [] H r H') : HT H' ∧ vO r ∧ ∀ a b, ¬ (58 ≤ a ∧ a ≤ 77) → sxEl H' a b = sxEl H a b := by
  have ed := lFr (M := lM334) (s := ([(0, .inl [0])], [])) lIn334 rfl (by decide +kernel) rfl (frLR_c rfl ⟨0, List.mem_singleton.mpr rfl, rfl⟩ frLR_n) hT h
  refine ⟨ed.1, lVo ed rfl, fun a b z => ed.2.1 a b ?_⟩
  cases e : frIn (lM334).2.2.1 a b with
  | false => rfl
  | true =>
    obtain ⟨p, p1, p2, p3⟩ := inW_ok (W := [(58, 77, 0, 100000)]) (by decide +kernel) e
    cases List.mem_singleton.mp p1
    dsimp only at p2 p3
    omega
theorem cl_fr {yv : Int32} (hT : HT H) (h : Pn none m 116 0 [(0, .ref 0), (1, .int yv)] [] H r H') : ∀ a b, 78 ≤ a → a ≤ 577 → b ≤ 100000 → sxEl H' a b = sxEl H a b := by
  have ed := lFr (M := lM119) (s := ([(0, .inl [0]), (1, .inr false)], [])) lIn119 rfl (by decide +kernel) rfl (frLR_c rfl ⟨0, List.mem_singleton.mpr rfl, rfl⟩ (frLR_c rfl ⟨_, rfl⟩ frLR_n)) hT h
  exact fun a b z1 z2 z3 => ed.2.1 a b (djA_ok (F := [(78, 577, 0, 100000)]) (by decide +kernel) (inF_m (f := (78, 577, 0, 100000)) (List.mem_singleton.mpr rfl) z1 z2 (Nat.zero_le _) z3))
theorem rl_fr {yv : Int32} (hT : HT H) (h : Pn none m 236 0 [(0, .ref 78), (1, .int yv)] [] H r H') : HT H' ∧ ∀ a b, a ≤ 77 → b ≤ 100000 → sxEl H' a b = sxEl H a b := by
  have ed := lFr (M := lM171) (s := ([(0, .inl [78]), (1, .inr false)], [])) lIn171 rfl (by decide +kernel) rfl (frLR_c rfl one78 (frLR_c rfl ⟨_, rfl⟩ frLR_n)) hT h
  exact ⟨ed.1, fun a b z2 z3 => ed.2.1 a b (djA_ok (F := [(0, 77, 0, 100000)]) (by decide +kernel) (inF_m (f := (0, 77, 0, 100000)) (List.mem_singleton.mpr rfl) (Nat.zero_le _) z2 (Nat.zero_le _) z3))⟩
theorem turn3 (hI : pI H J Q ru) (ht : tpI H tx F) (q : lq_3 y H H2) : ∃ Q' ru', pI H2 J Q' ru' := by
  obtain ⟨m1, m2, r1, r2, H1, q1, q2, ⟨v1, e1⟩, v2, e2⟩ := q
  have hI0 := hI
  obtain ⟨hT, ⟨hJ, j2, j3⟩, ⟨hQ, g4, g5⟩, hS, hO, hN, hC, hR⟩ := hI
  have Fle := ht.1.1
  obtain ⟨rc, Hc, qc, tc, fw⟩ := tw_wr hT q1
  have t1 : HT H1 := (lg_3a hT q1).1
  have fc := cl_fr hT qc
  have h781 : gI H1 78 1 = Int32.ofInt (F : Int) := (gI_cgE (fw 78 1 (by decide))).trans ((gI_cgE (fc 78 1 (by decide) (by decide) (by decide))).trans ht.1.2.2)
  have h79 : ∀ i, i < F → gI H1 79 i = Int32.ofInt (tx i : Int) := fun i hi => (gI_cgE (fw 79 i (by decide))).trans ((gI_cgE (fc 79 i (by decide) (by decide) (by omega))).trans (ht.2 i hi).2.2)
  obtain ⟨t2, rf⟩ := rl_fr t1 q2
  obtain ⟨Qs, hQs⟩ : ∃ Qs, Qs = 42 - Q := ⟨_, rfl⟩
  have hQs2 : Qs = 19 ∨ Qs = 23 := by omega
  have g5' : gR H 0 5 = Qs := by rw [hQs]; exact g5
  obtain ⟨L2, hL2, ra, Ha, qa, ka⟩ := a_u0 hT hQs2 hQ g4 g5' ⟨rfl, rfl, trivial⟩ qc
  have hnb := px_nb (M := 200) (by decide) Fle hT ht.1.2.1 qa
  by_cases hr : tnR (y 1) F
  rotate_left
  · -- refused
    rcases hnb with ⟨z, -⟩ | ⟨-, ⟨E, e⟩, t, f⟩
    · exact absurd z hr
    have hca : Hc = Ha := by
      rcases ka with ⟨u, e', -⟩ | ⟨E', e', k1, k2⟩
      · rw [e] at e'
        cases e'
      · exact k2
    rcases py_tong t1 Fle h781 q2 with ⟨-, -, f2⟩ | ⟨z, -⟩
    rotate_left
    · exact absurd z hr
    refine ⟨Q, ru, pI_cg hI0 t2 (fun a b z _ => ?_)⟩
    have z2 := fp_lt z
    rw [f2 a b (by omega) (by omega), fw a b (by omega), hca]
    exact f a b (by omega)
  · -- in range
    rcases hnb with ⟨-, e3, e4⟩ | ⟨z, -⟩
    rotate_left
    · exact absurd hr z
    rw [e3, e4] at ka
    obtain ⟨n, hn, hn2⟩ : ∃ n : Nat, y 1 = Int32.ofInt (n : Int) ∧ n ≤ F ∧ n ≤ 200 := by
      obtain ⟨h0, h1, h2⟩ := hr
      refine ⟨(y 1).toInt.toNat, ?_, by omega, by omega⟩
      have e : (((y 1).toInt.toNat : Nat) : Int) = (y 1).toInt := by omega
      rw [e]
      exact zz_of (y 1)
    obtain ⟨L3, hL3, rb, Hb, qb, kb⟩ := a_u1 hT hQs2 hQ g4 g5' hL2 (Kt_v ka)
    rw [hn] at qb
    obtain ⟨s, z1, e5, tb, ca, ⟨c7, c8⟩, fb⟩ := px_begin (tx := tx) (by omega) hT ⟨by omega, fun i hi => ⟨(ht.2 i (by omega)).1, (ht.2 i (by omega)).2.1⟩⟩ qb
    rw [e5] at kb
    have g4b : gR Hb 0 4 = Q := (gR_cgE (fb 0 4 (by decide))).trans g4
    have g5b : gR Hb 0 5 = Qs := (gR_cgE (fb 0 5 (by decide))).trans g5'
    obtain ⟨L4, hL4, rd, Hd, qd, kd⟩ := a_u2 tb hQs2 hQ g4b g5b hL3 (Kt_v kb)
    obtain ⟨td, fd⟩ := rd_fr hQs2 tb qd
    obtain ⟨L5, hL5, r5, H5, q5, k5⟩ := g_r0 tb hQs2 ⟨rfl, rfl, trivial⟩ qd
    obtain ⟨e6, e7⟩ := g_c0 tb hQs2 ⟨rfl, trivial⟩ q5
    rw [e6] at k5
    have t50 := HT.pFI (x := Int32.ofInt 0) tb (kQ0 hQs2)
    have t5 : HT H5 := by
      rw [e7]
      exact HT.pFI t50 (kQ2 hQs2)
    have f5 : ∀ a b, ¬ (a = Qs ∧ (b = 0 ∨ b = 2)) → sxEl H5 a b = sxEl Hb a b := fun a b z => by rw [e7, sxEl_ne (by omega), sxEl_ne (by omega)]
    obtain ⟨L6, hL6, h6⟩ := g_r1 t5 hQs2 hL5 (Kt_v k5)
    have cc : tcC H5 tx n := ⟨by omega, fun i hi => ⟨(ht.2 i (by omega)).1, (gI_cgE (f5 2 i (by omega))).trans ((gI_cgE (fb 2 i (by decide))).trans (ht.2 i (by omega)).2.1)⟩⟩
    have cg0 : cG H5 Qs (tgCode []) tx n s 0 := ⟨⟨t5, cc, cAt_cg ca (fun b _ _ => f5 1 b (by omega)), (gI_cgE (f5 1 7 (by omega))).trans c7, (gI_cgE (f5 1 8 (by omega))).trans c8⟩, hn2.2, by rw [e7]; exact gI_fat t50 (kQ2 hQs2), Nat.zero_le _, fun i c hi => by cases hi⟩
    have q00 : gI H5 Qs 0 = Int32.ofInt ((([] : tgRu).length : Nat) : Int) := by
      rw [e7, gI_ne (by omega)]
      exact gI_fat tb (kQ0 hQs2)
    rcases py_tong t1 Fle h781 q2 with ⟨z, -⟩ | ⟨-, H0, L7, r7, H7, t0, f0, hL7, q7, k7⟩
    · exact absurd hr z
    rw [hn] at q7
    obtain ⟨s', z2, e8, t7, p1, ⟨p5, p8⟩, f7⟩ := py_starts (tx := tx) (by omega) t0 (fun i hi => ⟨(ht.2 i (by omega)).1, (gI_cgE (f0 79 i (by omega))).trans (h79 i (by omega))⟩) q7
    obtain rfl := ztRun_un z2 z1
    rw [e8] at k7
    obtain ⟨L8, hL8, h8⟩ := h_t3 t7 hL7 (Kt_v k7)
    have u1 := HT.pFI (x := Int32.ofInt 0) t7 kF_78_26_9_false
    have u2 := HT.pFI (x := Int32.ofInt 0) u1 kF_78_28_9_false
    have fX : ∀ a b, ¬ (a = 78 ∧ (b = 26 ∨ b = 28)) → sxEl (pV (pV H7 78 26 (.int (Int32.ofInt 0))) 78 28 (.int (Int32.ofInt 0))) a b = sxEl H7 a b := fun a b z => by rw [sxEl_ne (by omega), sxEl_ne (by omega)]
    have rp0 : rP (pV (pV H7 78 26 (.int (Int32.ofInt 0))) 78 28 (.int (Int32.ofInt 0))) (ruS []) tx n s' 0 := ⟨u2, ⟨p1.1.cg (fun a b z => fX a b (by omega)), p1.2.1, (gI_cgE (fX 78 4 (by omega))).trans p1.2.2.1, p1.2.2.2⟩, (gI_cgE (fX 78 5 (by omega))).trans p5, (gI_cgE (fX 78 8 (by omega))).trans p8, gI_fat u1 kF_78_28_9_false, Nat.zero_le _, fun i c hi => by cases hi⟩
    have ru0 : rRu (pV (pV H7 78 26 (.int (Int32.ofInt 0))) 78 28 (.int (Int32.ofInt 0))) [] := ⟨by rw [gI_ne (by omega)]; exact gI_fat t7 kF_78_26_9_false, Nat.zero_le _, fun i c hi => by cases hi⟩
    -- the class's cells behind all
    have clf : ∀ a b, a ≤ 77 → b ≤ 100000 → sxEl H2 a b = sxEl Hc a b := fun a b z3 z4 => (rf a b z3 z4).trans (fw a b (by omega))
    rcases tRd hQs2 (H0 := pV (pV H7 78 26 (.int (Int32.ofInt 0))) 78 28 (.int (Int32.ofInt 0))) m1 m2 0 s' [] L6 L8 H5 _ (Nat.zero_le _) (fun q hq => by cases hq) cg0 q00 rp0 ru0 tFm.rf hL6 hL8 h6 h8 with ⟨⟨b1, b2, b3⟩, b4⟩ | ⟨e9, ru', mx, Lx, Hx, ok', cg', q0', rp', ru1, fm', hLx, hx⟩
    · -- a fault
      have hcd : ∀ a b, ¬ (a = 0 ∧ b = 1) → sxEl Hc a b = sxEl Hd a b := by
        rcases kd with ⟨u, e, k⟩ | ⟨E, e, k1, k2⟩
        · rcases b3 with b3 | ⟨E, b3⟩
          · rw [b3] at e
            cases e
            have g4d : gR Hd 0 4 = Q := (gR_cgE (fd 0 4 (by decide) (by omega) (by omega))).trans g4b
            have g5d : gR Hd 0 5 = Qs := (gR_cgE (fd 0 5 (by decide) (by omega) (by omega))).trans g5b
            obtain ⟨-, -, e4⟩ := (a_u3 td hQs2 hQ g4d g5d hL4 k).resolve_left (fun z => b2.2 z.1)
            intro a b z
            rw [e4, sxEl_ne z]
          · rw [b3] at e
            cases e
        · intro a b z
          rw [k2]
      rcases b4 with ⟨E, e⟩ | ⟨mx, Lx, Hx, b4, b5, b6, hLx, hx⟩
      · rw [e] at e2
        cases e2
      have hh2 : ∀ a b, ¬ (a = 78 ∧ b = 3) → sxEl H2 a b = sxEl Hx a b := by
        cases mx with
        | zero => exact Pn0 hx
        | succ mx =>
          have hb := ((h_tL b4 hLx hx).resolve_right (fun z => z.1 b5)).2
          obtain ⟨-, -, e4⟩ := hb.resolve_left (fun z => b5 z.1)
          intro a b z
          rw [e4, sxEl_ne z]
      refine ⟨Q, ru, pI_cg hI0 t2 (fun a b z zQ => ?_)⟩
      have z3 := fp_lt z
      by_cases h77 : a ≤ 77
      · rw [clf a b h77 (fp_b z), hcd a b (by omega), fd a b (by omega) (by omega) (by omega)]
        exact fb a b (by omega)
      · rw [hh2 a b (by omega), b6 a b (by unfold tWr; omega), fX a b (by omega), f7 a b (by omega), f0 a b (by omega), fw a b (by omega)]
        exact fc a b (by omega) (by omega) (fp_b z)
    · -- a new TONGUE
      rw [e9] at kd
      have g4d : gR Hd 0 4 = Q := (gR_cgE (fd 0 4 (by decide) (by omega) (by omega))).trans g4b
      have g5d : gR Hd 0 5 = Qs := (gR_cgE (fd 0 5 (by decide) (by omega) (by omega))).trans g5b
      obtain ⟨-, L9, hL9, r9, H9, q9, k9⟩ := (a_u3 td hQs2 hQ g4d g5d hL4 (Kt_v kd)).resolve_right (fun z => z.1 cg'.1.2.2.2.2)
      have w1 := HT.pFI (x := gI Hd 1 9) td kF_0_1_8_false
      have w2 := HT.pFR (i := 0) (j := 4) (x := Qs) w1 kR_0_4_8__19_23_ (by rcases hQs2 with rfl | rfl <;> decide)
      have w3 := HT.pFR (i := 0) (j := 5) (x := Q) w2 kR_0_5_8__19_23_ (by rcases hQ with rfl | rfl <;> decide)
      have fW : ∀ a b, ¬ (a = 0 ∧ (b = 1 ∨ b = 4 ∨ b = 5)) → sxEl (pV (pV (pV Hd 0 1 (.int (gI Hd 1 9))) 0 4 (.ref Qs)) 0 5 (.ref Q)) a b = sxEl Hd a b := fun a b z => by rw [sxEl_ne (by omega), sxEl_ne (by omega), sxEl_ne (by omega)]
      have gW4 : gR (pV (pV (pV Hd 0 1 (.int (gI Hd 1 9))) 0 4 (.ref Qs)) 0 5 (.ref Q)) 0 4 = Qs := by
        rw [gR_ne (by omega)]
        exact gR_fat w1 kR_0_4_8__19_23_
      have gW5 : gR (pV (pV (pV Hd 0 1 (.int (gI Hd 1 9))) 0 4 (.ref Qs)) 0 5 (.ref Q)) 0 5 = Q := gR_fat w2 kR_0_5_8__19_23_
      obtain ⟨t9, v9, f9⟩ := fs_fr w3 q9
      have hc9 : Hc = H9 := by
        rcases k9 with ⟨u, e, k⟩ | ⟨E, e, k1, k2⟩
        · rcases v9 with v9 | ⟨E, v9⟩
          · rw [v9] at e
            cases e
            exact (a_u4 t9 hQ hQs2 ((gR_cgE (f9 0 4 (by omega))).trans gW4) ((gR_cgE (f9 0 5 (by omega))).trans gW5) hL9 k).2
          · rw [v9] at e
            cases e
        · exact k2
      obtain ⟨-, -, f10, rl1, rl2⟩ := rLay rp' ru1 hLx hx
      have cl2 : ∀ a b, a ≤ 57 → b ≤ 100000 → ¬ (a = 0 ∧ (b = 1 ∨ b = 4 ∨ b = 5)) → sxEl H2 a b = sxEl Hd a b := fun a b z3 z4 z5 => by rw [clf a b (by omega) z4, hc9, f9 a b (by omega), fW a b z5]
      have cl3 : ∀ a b, a ≤ 57 → b ≤ 100000 → a ≠ 1 → a ≠ Qs → a ≠ Qs + 1 → ¬ (a = 0 ∧ (b = 1 ∨ b = 4 ∨ b = 5)) → sxEl H2 a b = sxEl H a b := fun a b z3 z4 z5 z6 z7 z8 => by rw [cl2 a b z3 z4 z8, fd a b z5 z6 z7, fb a b z5]
      refine ⟨Qs, ru', t2, ⟨hJ, (gR_cgE (cl3 0 2 (by omega) (by omega) (by omega) (by omega) (by omega) (by omega))).trans j2, (gR_cgE (cl3 0 3 (by omega) (by omega) (by omega) (by omega) (by omega) (by omega))).trans j3⟩, ⟨hQs2, ?_, ?_⟩, fun q hq => ?_, ⟨ok', rl2⟩, (gI_cgE (cl2 Qs 0 (by omega) (by omega) (by omega))).trans q0', ⟨?_, ?_, fun i c hi => ?_⟩, rl1⟩
      · rw [gR_cgE (clf 0 4 (by omega) (by omega)), hc9, gR_cgE (f9 0 4 (by omega))]
        exact gW4
      · rw [gR_cgE (clf 0 5 (by omega) (by omega)), hc9, gR_cgE (f9 0 5 (by omega)), gW5]
        omega
      · rw [gL_cgE (cl3 (J + 1) q (by omega) (by omega) (by omega) (by omega) (by omega) (by omega)), gI_cgE (cl3 (J + 2) q (by omega) (by omega) (by omega) (by omega) (by omega) (by omega))]
        exact hS q hq
      · exact (gI_cgE (cl2 Qs 2 (by omega) (by omega) (by omega))).trans cg'.2.2.1
      · have l1 := cg'.2.2.2.1
        have l2 := cg'.2.1
        omega
      · have l0 := (List.getElem?_eq_some_iff.mp hi).1
        have l1 := cg'.2.2.2.1
        have l2 := cg'.2.1
        exact (gI_cgE (cl2 (Qs + 1) i (by omega) (by omega) (by omega))).trans (cg'.2.2.2.2 i c hi)
end PCTT

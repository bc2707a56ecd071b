/-! PC: the TONGUE in step: the readers -/
section PCTP
theorem fS {c : Int} (h : (32 < c ∧ c < 48) ∨ (57 < c ∧ c < 97)) : sOk c := sOk_mk h
theorem fZ {p q : Prop} (h : (Int32.ofInt 1 = Int32.ofInt 0 ∧ p) ∨ q) : q := h.resolve_left (fun z => absurd z.1 (by decide))
theorem fO {p q : Prop} (h : p ∨ (¬ Int32.ofInt 0 = Int32.ofInt 0 ∧ q)) : p := h.resolve_right (fun z => z.1 rfl)
theorem fNZ {p q : Prop} (h : (¬ Int32.ofInt 1 = Int32.ofInt 0 ∧ p) ∨ (¬ (¬ Int32.ofInt 1 = Int32.ofInt 0) ∧ q)) : p := (h.resolve_right (fun z => z.1 (by decide))).2
theorem fNO {p q : Prop} (h : (¬ Int32.ofInt 0 = Int32.ofInt 0 ∧ p) ∨ (¬ (¬ Int32.ofInt 0 = Int32.ofInt 0) ∧ q)) : q := (h.resolve_left (fun z => z.1 rfl)).2
theorem fW_len {tx : Nat → Nat} {n s : Nat} {w : List Nat} (h : ztWd tx n s w) (hl : 0 < w.length) : s < n := by
  rcases Nat.lt_or_ge s n with z | z
  · exact z
  · have h1 := h.1.2.1 s (Nat.le_refl _) (by omega)
    rw [ztB_ge z] at h1
    exact absurd h1.1 (by decide)
/-- a value -/
theorem tV {Q : Nat} {tx : Nat → Nat} {n o : Nat} (hQ : Q = 19 ∨ Q = 23) (ho : o ≤ 6) (hsum : o < 6 → tP 108 231 (pX (1 + 2 * (6 - o))) Q tx n (o + 1)) : tP 110 234 (pX (1 + 2 * (6 - o))) Q tx n o := by
  intro m mr s cs rs Hc Hr rc Hc' rr Hr' hc hr h hh
  obtain ⟨-, La, hLa, ra, Ha, qa, ka⟩ := (h_v0 hr.1 ⟨rfl, trivial⟩ hh).resolve_right (fun z => z.1 hr.2.2.1)
  obtain ⟨rp, hh⟩ := rG_bl hr qa ka
  obtain ⟨Lb, hLb, rb, Hb, qb, kb⟩ := h_v1 rp.1 hLa hh
  have hb := h_v2 rp.1 hLb (rP_by rp qb kb)
  have hz := ztB_rg rp.2.1.1 s
  rw [zz_eq] at hb
  obtain ⟨L1, hL1, r1, H1, q1, k1⟩ := g_v0 hc.1.1 hQ ⟨rfl, rfl, trivial⟩ h
  rcases cG_sig hc (fS (by decide)) q1 k1 with ⟨g, h⟩ | ⟨g, h⟩
  · -- it opens
    obtain ⟨-, Lc, hLc, rc2, Hc2, qc, kc⟩ := hb.resolve_left (fun z => z.1 g)
    obtain ⟨-, L2, hL2, r3, H3, q3, k3⟩ := fZ (g_v1 hc.1.1 hQ hL1 h)
    rcases cG_op hQ hc (ztEnd_sig g (fS (by decide))) ho q3 k3 with ⟨ho6, s1, z1, cg, h⟩ | ⟨ho6, b1, b2, h⟩
    · rcases rP_op rp ho qc kc with ⟨-, rp2, hh⟩ | ⟨g2, -⟩
      rotate_left
      · omega
      obtain ⟨-, L3, hL3, r4, H4, q4, k4⟩ := fZ (g_v2 cg.1.1 hQ hL2 h)
      obtain ⟨Ld, hLd, rd, Hd, qd, kd⟩ := fNZ (h_v3 rp2.1 hLc hh)
      obtain ⟨s2, y1, rg⟩ := rP_up rp2 (ztB_in g (by decide))
      rw [ztRun_un y1 z1] at rg
      have l0 := z1.1
      rcases hsum ho6 m mr s1 cs rs _ _ _ _ _ _ cg rg q4 qd with ⟨b1, b2⟩ | ⟨s3, seg, l1, e1, e2, cg3, rg3, hd⟩
      · exact Or.inl ⟨cBd (M := cM62) (sS := []) cIn62 (by decide +kernel) rfl rfl (by decide +kernel) (gTk hL3) b1 k4 trivial, rBd (M := rM30) (sS := []) rIn30 (by decide +kernel) rfl rfl (by decide +kernel) (m0 hLd) b2 kd trivial⟩
      rw [e1] at k4
      rw [e2] at kd
      obtain ⟨L5, hL5, r5, H5, q5, k5⟩ := g_v3 cg3.1.1 hL3 (Kt_v k4)
      obtain ⟨Le, hLe, re, He, qe, ke⟩ := h_v4 rg3.1 hLd (Kt_v kd)
      rcases cG_ts hQ cg3 (fS (by decide)) q5 k5 with ⟨g3, s4, z4, cg4, h⟩ | ⟨g3, b1, b2, h⟩
      · rcases rG_sg rg3 (by decide) qe ke with ⟨-, s5, y5, rg5, hh⟩ | ⟨g4, -⟩
        rotate_left
        · exact absurd g3 g4
        rw [ztRun_un y5 z4] at rg5
        obtain ⟨L6, hL6, r6, H6, q6, k6⟩ := g_v4 cg4.1.1 hL5 h
        obtain ⟨cg6, h⟩ := cG_shut hQ cg4 q6 k6
        obtain ⟨e1, e2⟩ := g_v5 cg6.1.1 hL6 h
        obtain ⟨f1, f2⟩ := h_v5 rg5.1 hLe hh
        have l2 := z4.1
        refine Or.inr ⟨s4, seg, ⟨by omega, by omega⟩, e1, f1, ?_, ?_, hd⟩
        · rw [e2]
          exact cg6
        · rw [f2]
          exact rG_dn rg5
      · rcases rG_sg rg3 (by decide) qe ke with ⟨g4, -⟩ | ⟨-, b3, b4, hh⟩
        · exact absurd g4 g3
        exact Or.inl ⟨cEnd (M := cM62) (sS := []) cIn62 (by decide +kernel) rfl rfl (by decide +kernel) (gTk hL5) b1 b2 h trivial, rEnd (M := rM30) (sS := []) rIn30 (by decide +kernel) rfl rfl (by decide +kernel) (m0 hLe) b3 b4 hh trivial⟩
    · rcases rP_op rp ho qc kc with ⟨g2, -⟩ | ⟨-, b3, b4, hh⟩
      · omega
      exact Or.inl ⟨cEnd (M := cM62) (sS := [.inr false]) cIn62 (by decide +kernel) rfl rfl (by decide +kernel) (gQ hQ hL2) b1 b2 h ⟨⟨_, rfl⟩, trivial⟩, rEnd (M := rM30) (sS := [.inr false]) rIn30 (by decide +kernel) rfl rfl (by decide +kernel) (m0 hLc) b3 b4 hh ⟨⟨_, rfl⟩, trivial⟩⟩
  · obtain ⟨-, Lc, hLc, rc2, Hc2, qc, kc⟩ := hb.resolve_right (fun z => z.1 g)
    obtain ⟨Ld, hLd, rd, Hd, qd, kd⟩ := h_v6 rp.1 hLc (rP_by rp qc kc)
    obtain ⟨-, L2, hL2, r3, H3, q3, k3⟩ := fO (g_v1 hc.1.1 hQ hL1 h)
    rcases cG_num hc q3 k3 with ⟨g2, h⟩ | ⟨g2, h⟩
    · -- a number
      rcases rP_dg rp qd kd with ⟨-, hh⟩ | ⟨g3, -⟩
      rotate_left
      · exact absurd g2 g3
      obtain ⟨-, L4, hL4, r4, H4, q4, k4⟩ := fZ (g_v6 hc.1.1 hQ hL2 h)
      obtain ⟨-, Le, hLe, re, He, qe, ke⟩ := fZ (h_v7 rp.1 hLd hh)
      rcases cG_tn hQ hc q4 k4 with ⟨e, s1, z1, l1, l2, z2, cg, h⟩ | ⟨g3, b1, b2, z, h⟩
      · rcases rG_nb (rP_g rp) qe ke with ⟨e', s2, y1, y2, y3, y4, rg, hh⟩ | ⟨g4, -⟩
        rotate_left
        · exact absurd ⟨l1, l2⟩ (g4 e z1)
        have ee := ztRun_un y1 z1
        rw [ee] at y4 hh
        rw [ztRun_un y4 z2] at rg
        have l3 := z2.1
        obtain ⟨L5, hL5, r5, H5, q5, k5⟩ := g_v7 cg.1.1 hQ hL4 h
        obtain ⟨Lf, hLf, rf, Hf, qf, kf⟩ := h_v8 rg.1 hLe hh
        have lc := hc.2.2.2.1
        obtain ⟨cg5, h⟩ := cG_add hQ cg (by omega) q5 k5
        obtain ⟨rg5, hh⟩ := rG_say rg (v := nvF tx s (e - s)) (w := 0) ⟨(by dsimp only; omega), fun z => absurd z (by dsimp only; omega), fun _ => (by dsimp only; omega)⟩ qf kf
        obtain ⟨e1, e2⟩ := g_v8 cg5.1.1 hL5 h
        obtain ⟨f1, f2⟩ := h_v9 rg5.1 hLf hh
        refine Or.inr ⟨s1, [(0, nvF tx s (e - s))], ⟨by rw [List.length_singleton]; omega, by omega⟩, e1, f1, ?_, ?_, _, (tgX_num ⟨l2.1, by omega⟩).le (by omega)⟩
        · rw [e2]
          exact cg5
        · rw [f2]
          exact rg5
      · rcases rG_nb (rP_g rp) qe ke with ⟨e', s2, y1, y2, y3, y4, rg, hh⟩ | ⟨-, b3, b4, z', hh⟩
        · exact absurd ⟨y2, y3⟩ (g3 e' y1)
        exact Or.inl ⟨cEnd (M := cM62) (sS := [.inr false, .inl [19, 23]]) cIn62 (by decide +kernel) rfl rfl (by decide +kernel) (gN hL4) b1 b2 h ⟨⟨_, rfl⟩, oneQ hQ, trivial⟩, rEnd (M := rM30) (sS := [.inr false, .inr false, .inl [78]]) rIn30 (by decide +kernel) rfl rfl (by decide +kernel) (gN hLe) b3 b4 hh ⟨⟨_, rfl⟩, ⟨_, rfl⟩, one78, trivial⟩⟩
    · -- a quantity
      rcases rP_dg rp qd kd with ⟨g3, -⟩ | ⟨-, hh⟩
      · exact absurd g3 g2
      obtain ⟨-, L4, hL4, r4, H4, q4, k4⟩ := fO (g_v6 hc.1.1 hQ hL2 h)
      obtain ⟨-, Le, hLe, re, He, qe, ke⟩ := fO (h_v7 rp.1 hLd hh)
      obtain ⟨j, j1, j2, j3, j4⟩ := cG_qty hc q4
      obtain ⟨i, i1, i2, i3, i4⟩ := rG_kn (rP_g rp) qe
      obtain rfl := fW_un i2 j2 i1 j1
      rw [j3, j4] at k4
      rw [i3] at ke
      by_cases hj : i < 10
      · rw [if_pos hj] at k4 ke
        rcases i4 with ⟨z, -⟩ | ⟨w, s2, w1, w2, w3, rg⟩
        · omega
        have hw : 0 < w.length := by
          have : ∀ w, w ∈ qWs → 0 < w.length := by decide
          exact this w (List.mem_of_getElem? w1)
        have hb := g_v9 hc.1.1 hQ hL4 (Kt_i k4)
        rw [zz_eq] at hb
        obtain ⟨-, L5, hL5, r5, H5, q5, k5⟩ := hb.resolve_right (fun z => z.1 (by omega))
        obtain ⟨s1, z1, cg, h⟩ := cG_step hQ hc (ztWd_end w2 hw) q5 k5
        rw [ztRun_un w3 z1] at rg
        obtain ⟨L6, hL6, r6, H6, q6, k6⟩ := g_v11 cg.1.1 hQ hL5 h
        have hb := h_v10 rg.1 hLe (Kt_i ke)
        rw [zz_eq] at hb
        obtain ⟨-, Lf, hLf, rf, Hf, qf, kf⟩ := hb.resolve_right (fun z => z.1 (by omega))
        rw [zz_add] at q6
        have lc := hc.2.2.2.1
        have l3 := z1.1
        obtain ⟨cg5, h⟩ := cG_add hQ cg (by omega) q6 k6
        obtain ⟨rg5, hh⟩ := rG_say rg (v := (i : Int)) (w := 1) ⟨(by dsimp only; omega), fun _ => (by dsimp only; omega), fun z => absurd z (by dsimp only; omega)⟩ qf kf
        obtain ⟨e1, e2⟩ := g_v12 cg5.1.1 hL6 h
        obtain ⟨f1, f2⟩ := h_v12 rg5.1 hLf hh
        refine Or.inr ⟨s1, [(1, (i : Int))], ⟨by rw [List.length_singleton]; omega, by omega⟩, e1, f1, ?_, ?_, _, (tgX_qua hj).le (by omega)⟩
        · rw [e2]
          exact cg5
        · rw [f2]
          exact rg5
      · rw [if_neg hj] at k4 ke
        have hi : i = 10 := by omega
        rcases i4 with ⟨-, rg⟩ | ⟨w, s2, w1, -⟩
        rotate_left
        · rw [hi] at w1
          cases w1
        obtain ⟨-, L5, hL5, r5, H5, q5, k5⟩ := (g_v9 hc.1.1 hQ hL4 (Kt_i k4)).resolve_left (fun z => z.1 rfl)
        obtain ⟨b1, b2, h⟩ := cG_fail hc (by decide) q5 k5
        obtain ⟨-, Lf, hLf, rf, Hf, qf, kf⟩ := (h_v10 rg.1 hLe (Kt_i ke)).resolve_left (fun z => z.1 rfl)
        obtain ⟨b3, b4, hh⟩ := rG_wr rg (by decide) qf kf
        exact Or.inl ⟨cEnd (M := cM62) (sS := []) cIn62 (by decide +kernel) rfl rfl (by decide +kernel) (gQi hQ hL5) b1 b2 h trivial, rEnd (M := rM30) (sS := []) rIn30 (by decide +kernel) rfl rfl (by decide +kernel) (m1 hLf) b3 b4 hh trivial⟩
/-- values, times -/
theorem tPrL {Q : Nat} {tx : Nat → Nat} {n o : Nat} (hQ : Q = 19 ∨ Q = 23) (hsub : tP 110 234 (pX (1 + 2 * (6 - o))) Q tx n o) {s0 : Nat} {cs0 : List Int} {rs0 : List (Int × Int)} {rc rr : Option Value ⊕ Nat} {Hc' Hr' : mjH} : ∀ (m mr i s : Nat) (acc : List (Int × Int)) (L Lr : mjL) (Hc Hr : mjH), i ≤ s → acc.length + s0 ≤ s → s0 < s → pX (2 + 2 * (6 - o)) acc → cG Hc Q (cs0 ++ acc.map tgE) tx n s o → rG Hr (rs0 ++ acc) tx n s o → LG L [(0, .ref 1), (1, .ref Q), (2, .int (Int32.ofInt (i : Int)))] → LG Lr [(0, .ref 78)] → Pn none m 109 7 L [] Hc rc Hc' → Pn none mr 232 4 Lr [] Hr rr Hr' → tO Q (pX (2 + 2 * (6 - o))) cs0 rs0 tx n s0 o rc Hc' rr Hr'
  | 0, _, _, _, _, _, _, _, _, _, _, _, _, _, _, _, _, h, _ => Pn0 h
  | m + 1, mr, i, s, acc, L, Lr, Hc, Hr, his, hac, hs0, hP, hc, hr, hL, hLr, h, hh => by
    have hn := hc.2.1
    have hsn := hc.1.2.2.1.2.2.1
    have lc := hc.2.2.2.1
    obtain ⟨La, hLa, ra, Ha, qa, ka⟩ := h_p1 hr.1 hLr hh
    have hb := g_pL hc.1.1 hQ hL h
    rw [zz_le] at hb
    rcases rG_tsg (c := 42) hr (by decide) qa ka with ⟨g, s1, z1, rg, hh⟩ | ⟨g, rg, hh⟩
    · -- once more
      have hlt : s < n := ztB_in g (by decide)
      obtain ⟨-, L1, hL1, r1, H1, q1, k1⟩ := hb.resolve_left (fun z => (by have := z.1; omega))
      rcases cG_sig hc (fS (by decide)) q1 k1 with ⟨-, h⟩ | ⟨g2, -⟩
      rotate_left
      · exact absurd g g2
      obtain ⟨-, L2, hL2, r2, H2, q2, k2⟩ := fZ (g_p2 hc.1.1 hQ hL1 h)
      obtain ⟨s2, z2, cg, h⟩ := cG_step hQ hc (ztEnd_sig g (fS (by decide))) q2 k2
      rw [ztRun_un z1 z2] at rg
      have l0 := z2.1
      try simp only [List.length_cons, List.length_nil] at l0
      obtain ⟨L3, hL3, r3, H3, q3, k3⟩ := g_p3 cg.1.1 hQ hL2 h
      obtain ⟨-, Lb, hLb, rb, Hb, qb, kb⟩ := fZ (h_p2 rg.1 hLa hh)
      rcases hsub m mr s2 _ _ _ _ _ _ _ _ cg rg q3 qb with ⟨b1, b2⟩ | ⟨s3, seg, l1, e1, e2, cg3, rg3, hd⟩
      · exact Or.inl ⟨cBd (M := cM59) (sS := []) cIn59 (by decide +kernel) rfl rfl (by decide +kernel) (gQi hQ hL3) b1 k3 trivial, rBd (M := rM28) (sS := []) rIn28 (by decide +kernel) rfl rfl (by decide +kernel) (m0 hLb) b2 kb trivial⟩
      rw [e1] at k3
      rw [e2] at kb
      obtain ⟨L4, hL4, r4, H4, q4, k4⟩ := g_p4 cg3.1.1 hQ hL3 (Kt_v k3)
      have la : (cs0 ++ acc.map tgE).length = cs0.length + acc.length := by rw [List.length_append, List.length_map]
      have lb : (cs0 ++ acc.map tgE ++ seg.map tgE).length = cs0.length + acc.length + seg.length := by rw [List.length_append, la, List.length_map]
      rw [la] at lc
      obtain ⟨cg4, h⟩ := cG_add hQ cg3 (by rw [lb]; omega) q4 k4
      obtain ⟨L5, hL5, h⟩ := g_p5 cg4.1.1 hQ hL4 h
      obtain ⟨Lc, hLc, rc4, Hc4, qc, kc⟩ := h_p3 rg3.1 hLb (Kt_v kb)
      obtain ⟨rg4, hh⟩ := rG_say rg3 (w := 4) (v := 0) ⟨by decide, fun z => absurd z (by decide), fun z => absurd z (by decide)⟩ qc kc
      obtain ⟨Ld, hLd, hh⟩ := h_p4 rg4.1 hLc hh
      rw [zz_add] at hL5
      have hi1 : ((i : Int) + 1) = ((i + 1 : Nat) : Int) := by omega
      rw [hi1] at hL5
      refine tPrL hQ hsub m mr (i + 1) s3 (acc ++ (seg ++ [(4, 0)])) L5 Ld _ _ (by omega) ?_ (by omega) ?_ ?_ ?_ hL5 hLd h hh
      · rw [List.length_append, List.length_append, List.length_singleton]
        omega
      · obtain ⟨d1, hd1⟩ := hP
        obtain ⟨d2, hd2⟩ := hd
        exact ⟨_, tgX_sum hd1 hd2 (by omega) (by decide)⟩
      · rw [List.map_append, List.map_append, ← List.append_assoc, ← List.append_assoc]
        exact cg4
      · rw [← List.append_assoc, ← List.append_assoc]
        exact rg4
    · -- no more
      obtain ⟨-, f1, f2⟩ := fO (h_p2 rg.1 hLa hh)
      have e : rc = .inl none ∧ Hc' = Hc := by
        rcases hb with ⟨-, e1, e2⟩ | ⟨-, L1, hL1, r1, H1, q1, k1⟩
        · exact ⟨e1, e2⟩
        rcases cG_sig hc (fS (by decide)) q1 k1 with ⟨g2, -⟩ | ⟨-, h⟩
        · exact absurd g2 g
        exact (fO (g_p2 hc.1.1 hQ hL1 h)).2
      refine Or.inr ⟨s, acc, ⟨hac, hs0⟩, e.1, f1, ?_, ?_, hP⟩
      · rw [e.2]
        exact hc
      · rw [f2]
        exact rg
theorem tPr {Q : Nat} {tx : Nat → Nat} {n o : Nat} (hQ : Q = 19 ∨ Q = 23) (hsub : tP 110 234 (pX (1 + 2 * (6 - o))) Q tx n o) : tP 109 232 (pX (2 + 2 * (6 - o))) Q tx n o := by
  intro m mr s cs rs Hc Hr rc Hc' rr Hr' hc hr h hh
  obtain ⟨L1, hL1, r1, H1, q1, k1⟩ := g_p0 hc.1.1 hQ ⟨rfl, rfl, trivial⟩ h
  obtain ⟨La, hLa, ra, Ha, qa, ka⟩ := h_p0 hr.1 ⟨rfl, trivial⟩ hh
  rcases hsub m mr s _ _ _ _ _ _ _ _ hc hr q1 qa with ⟨b1, b2⟩ | ⟨s3, seg, l1, e1, e2, cg3, rg3, hd⟩
  · exact Or.inl ⟨cBd (M := cM59) (sS := []) cIn59 (by decide +kernel) rfl rfl (by decide +kernel) (gQ hQ hL1) b1 k1 trivial, rBd (M := rM28) (sS := []) rIn28 (by decide +kernel) rfl rfl (by decide +kernel) (m0 hLa) b2 ka trivial⟩
  rw [e1] at k1
  rw [e2] at ka
  obtain ⟨L2, hL2, h⟩ := g_p1 cg3.1.1 hQ hL1 (Kt_v k1)
  exact tPrL hQ hsub m mr 0 s3 seg L2 La _ _ (Nat.zero_le _) l1.1 l1.2 (pX_le hd (by omega)) cg3 rg3 hL2 hLa h (Kt_v ka)
/-- products, plus and minus -/
theorem tSmL {Q : Nat} {tx : Nat → Nat} {n o : Nat} (hQ : Q = 19 ∨ Q = 23) (hsub : tP 109 232 (pX (2 + 2 * (6 - o))) Q tx n o) {s0 : Nat} {cs0 : List Int} {rs0 : List (Int × Int)} {rc rr : Option Value ⊕ Nat} {Hc' Hr' : mjH} : ∀ (m mr i s : Nat) (acc : List (Int × Int)) (L Lr : mjL) (Hc Hr : mjH), i ≤ s → acc.length + s0 ≤ s → s0 < s → pX (3 + 2 * (6 - o)) acc → cG Hc Q (cs0 ++ acc.map tgE) tx n s o → rG Hr (rs0 ++ acc) tx n s o → LG L [(0, .ref 1), (1, .ref Q), (2, .int (Int32.ofInt (i : Int)))] → LG Lr [(0, .ref 78)] → Pn none m 108 7 L [] Hc rc Hc' → Pn none mr 231 4 Lr [] Hr rr Hr' → tO Q (pX (3 + 2 * (6 - o))) cs0 rs0 tx n s0 o rc Hc' rr Hr'
  | 0, _, _, _, _, _, _, _, _, _, _, _, _, _, _, _, _, h, _ => Pn0 h
  | m + 1, mr, i, s, acc, L, Lr, Hc, Hr, his, hac, hs0, hP, hc, hr, hL, hLr, h, hh => by
    have hn := hc.2.1
    have hsn := hc.1.2.2.1.2.2.1
    have lc := hc.2.2.2.1
    obtain ⟨-, La, hLa, ra, Ha, qa, ka⟩ := (h_s1 hr.1 hLr hh).resolve_left (fun z => z.1 hr.2.2.1)
    have hb := g_sL hc.1.1 hQ hL h
    rw [zz_le] at hb
    have la : (cs0 ++ acc.map tgE).length = cs0.length + acc.length := by rw [List.length_append, List.length_map]
    rw [la] at lc
    have go : ∀ (w sg : Int) (s2 : Nat) (L2 : mjL) (H2 : mjH) (Lb : mjL) (Hb : mjH) (rb : Option Value ⊕ Nat) (Hb2 : mjH), (w = 2 ∨ w = 3) → sg = 1998 + w → s + 1 ≤ s2 → cG H2 Q (cs0 ++ acc.map tgE) tx n s2 o → rG Hb (rs0 ++ acc) tx n s2 o → LG L2 [(0, .ref 1), (1, .ref Q), (2, .int (Int32.ofInt (i : Int))), (3, .int (Int32.ofInt sg))] → Pn none m 108 55 L2 [] H2 rc Hc' → LG Lb [(0, .ref 78), (1, .int (Int32.ofInt w))] → Pn none mr 232 0 [(0, .ref 78)] [] Hb rb Hb2 → Kt mr 231 49 Lb [] rb Hb2 rr Hr' → tO Q (pX (3 + 2 * (6 - o))) cs0 rs0 tx n s0 o rc Hc' rr Hr' := by
      intro w sg s2 L2 H2 Lb Hb rb Hb2 hw hsg l0 cg rg hL2 h hLb qb kb
      obtain ⟨L3, hL3, r3, H3, q3, k3⟩ := g_s5 cg.1.1 hQ hL2 h
      rcases hsub m mr s2 _ _ _ _ _ _ _ _ cg rg q3 qb with ⟨b1, b2⟩ | ⟨s3, seg, l1, e1, e2, cg3, rg3, hd⟩
      · exact Or.inl ⟨cBd (M := cM58) (sS := []) cIn58 (by decide +kernel) rfl rfl (by decide +kernel) (gQii hQ hL3) b1 k3 trivial, rBd (M := rM26) (sS := []) rIn26 (by decide +kernel) rfl rfl (by decide +kernel) (m1 hLb) b2 kb trivial⟩
      rw [e1] at k3
      rw [e2] at kb
      obtain ⟨L4, hL4, r4, H4, q4, k4⟩ := g_s6 cg3.1.1 hQ hL3 (Kt_v k3)
      have lb : (cs0 ++ acc.map tgE ++ seg.map tgE).length = cs0.length + acc.length + seg.length := by rw [List.length_append, la, List.length_map]
      obtain ⟨cg4, h⟩ := cG_add hQ cg3 (by rw [lb]; omega) q4 k4
      obtain ⟨L5, hL5, h⟩ := g_s7 cg4.1.1 hQ hL4 h
      obtain ⟨Lc, hLc, rc4, Hc4, qc, kc⟩ := h_s4 rg3.1 hLb (Kt_v kb)
      obtain ⟨rg4, hh⟩ := rG_say rg3 (w := w) (v := 0) ⟨(by show 0 ≤ w ∧ w ≤ 10; omega), fun z => (by have z : w = 1 := z; omega), fun z => (by have z : w = 0 := z; omega)⟩ qc kc
      obtain ⟨Ld, hLd, hh⟩ := h_s5 rg4.1 hLc hh
      rw [zz_add] at hL5
      have hi1 : ((i : Int) + 1) = ((i + 1 : Nat) : Int) := by omega
      rw [hi1] at hL5
      have ht : [(w, (0 : Int))].map tgE = [sg] := by
        rw [hsg]
        rcases hw with rfl | rfl <;> rfl
      refine tSmL hQ hsub m mr (i + 1) s3 (acc ++ (seg ++ [(w, 0)])) L5 Ld _ _ (by omega) ?_ (by omega) ?_ ?_ ?_ hL5 hLd h hh
      · rw [List.length_append, List.length_append, List.length_singleton]
        omega
      · obtain ⟨d1, hd1⟩ := hP
        obtain ⟨d2, hd2⟩ := hd
        exact ⟨_, tgX_sum hd1 hd2 (by omega) (by omega)⟩
      · rw [List.map_append, List.map_append, ht, ← List.append_assoc, ← List.append_assoc]
        exact cg4
      · rw [← List.append_assoc, ← List.append_assoc]
        exact rg4
    rcases rG_tsg (c := 43) hr (by decide) qa ka with ⟨g, s1, z1, rg, hh⟩ | ⟨g, rg, hh⟩
    · have hlt : s < n := ztB_in g (by decide)
      obtain ⟨-, L1, hL1, r1, H1, q1, k1⟩ := hb.resolve_left (fun z => (by have := z.1; omega))
      rcases cG_sig hc (fS (by decide)) q1 k1 with ⟨-, h⟩ | ⟨g2, -⟩
      rotate_left
      · exact absurd g g2
      obtain ⟨L2, hL2, r2, H2, q2, k2⟩ := fNZ (g_s2 hc.1.1 hQ hL1 h)
      rcases cG_sig hc (fS (by decide)) q2 k2 with ⟨-, h⟩ | ⟨g2, -⟩
      rotate_left
      · exact absurd g g2
      obtain ⟨-, L3, hL3, r3, H3, q3, k3⟩ := fZ (g_s4 hc.1.1 hQ hL2 h)
      obtain ⟨s2, z2, cg, h⟩ := cG_step hQ hc (ztEnd_sig g (fS (by decide))) q3 k3
      rw [ztRun_un z1 z2] at rg
      have l0 := z2.1
      try simp only [List.length_cons, List.length_nil] at l0
      obtain ⟨-, Lb, hLb, rb, Hb, qb, kb⟩ := fZ (h_s2 rg.1 hLa hh)
      exact go 2 2000 s2 _ _ _ _ _ _ (Or.inl rfl) (by decide) l0 cg rg hL3 h hLb qb kb
    · obtain ⟨-, Lb, hLb, rb, Hb, qb, kb⟩ := fO (h_s2 rg.1 hLa hh)
      rcases rG_tsg (c := 45) rg (by decide) qb kb with ⟨g2, s1, z1, rg2, hh⟩ | ⟨g2, rg2, hh⟩
      · have hlt : s < n := ztB_in g2 (by decide)
        obtain ⟨-, L1, hL1, r1, H1, q1, k1⟩ := hb.resolve_left (fun z => (by have := z.1; omega))
        rcases cG_sig hc (fS (by decide)) q1 k1 with ⟨g3, -⟩ | ⟨-, h⟩
        · exact absurd g3 g
        obtain ⟨L2, hL2, r2, H2, q2, k2⟩ := fNO (g_s2 hc.1.1 hQ hL1 h)
        rcases cG_sig hc (fS (by decide)) q2 k2 with ⟨-, h⟩ | ⟨g3, -⟩
        rotate_left
        · exact absurd g2 g3
        obtain ⟨-, L3, hL3, r3, H3, q3, k3⟩ := fZ (g_s3 hc.1.1 hQ hL2 h)
        rcases cG_sig hc (fS (by decide)) q3 k3 with ⟨g3, -⟩ | ⟨-, h⟩
        · exact absurd g3 g
        obtain ⟨-, L4, hL4, r4, H4, q4, k4⟩ := fO (g_s4 hc.1.1 hQ hL3 h)
        obtain ⟨s2, z2, cg, h⟩ := cG_step hQ hc (ztEnd_sig g2 (fS (by decide))) q4 k4
        rw [ztRun_un z1 z2] at rg2
        have l0 := z2.1
        try simp only [List.length_cons, List.length_nil] at l0
        obtain ⟨-, Lc, hLc, rc4, Hc4, qc, kc⟩ := fZ (h_s3 rg2.1 hLb hh)
        exact go 3 2001 s2 _ _ _ _ _ _ (Or.inr rfl) (by decide) l0 cg rg2 hL4 h hLc qc kc
      · obtain ⟨-, f1, f2⟩ := fO (h_s3 rg2.1 hLb hh)
        have e : rc = .inl none ∧ Hc' = Hc := by
          rcases hb with ⟨-, e1, e2⟩ | ⟨-, L1, hL1, r1, H1, q1, k1⟩
          · exact ⟨e1, e2⟩
          rcases cG_sig hc (fS (by decide)) q1 k1 with ⟨g3, -⟩ | ⟨-, h⟩
          · exact absurd g3 g
          obtain ⟨L2, hL2, r2, H2, q2, k2⟩ := fNO (g_s2 hc.1.1 hQ hL1 h)
          rcases cG_sig hc (fS (by decide)) q2 k2 with ⟨g3, -⟩ | ⟨-, h⟩
          · exact absurd g3 g2
          exact (fO (g_s3 hc.1.1 hQ hL2 h)).2
        refine Or.inr ⟨s, acc, ⟨hac, hs0⟩, e.1, f1, ?_, ?_, hP⟩
        · rw [e.2]
          exact hc
        · rw [f2]
          exact rg2
theorem tSm {Q : Nat} {tx : Nat → Nat} {n o : Nat} (hQ : Q = 19 ∨ Q = 23) (hsub : tP 109 232 (pX (2 + 2 * (6 - o))) Q tx n o) : tP 108 231 (pX (3 + 2 * (6 - o))) Q tx n o := by
  intro m mr s cs rs Hc Hr rc Hc' rr Hr' hc hr h hh
  obtain ⟨L1, hL1, r1, H1, q1, k1⟩ := g_s0 hc.1.1 hQ ⟨rfl, rfl, trivial⟩ h
  obtain ⟨La, hLa, ra, Ha, qa, ka⟩ := h_s0 hr.1 ⟨rfl, trivial⟩ hh
  rcases hsub m mr s _ _ _ _ _ _ _ _ hc hr q1 qa with ⟨b1, b2⟩ | ⟨s3, seg, l1, e1, e2, cg3, rg3, hd⟩
  · exact Or.inl ⟨cBd (M := cM58) (sS := []) cIn58 (by decide +kernel) rfl rfl (by decide +kernel) (gQ hQ hL1) b1 k1 trivial, rBd (M := rM26) (sS := []) rIn26 (by decide +kernel) rfl rfl (by decide +kernel) (m0 hLa) b2 ka trivial⟩
  rw [e1] at k1
  rw [e2] at ka
  obtain ⟨L2, hL2, h⟩ := g_s1 cg3.1.1 hQ hL1 (Kt_v k1)
  exact tSmL hQ hsub m mr 0 s3 seg L2 La _ _ (Nat.zero_le _) l1.1 l1.2 (pX_le hd (by omega)) cg3 rg3 hL2 hLa h (Kt_v ka)
/-- a relation -/
theorem tRe {Q : Nat} {tx : Nat → Nat} {n o : Nat} (hQ : Q = 19 ∨ Q = 23) (hsum : tP 108 231 (pX (3 + 2 * (6 - o))) Q tx n o) {m mr s : Nat} {cs : List Int} {rs : List (Int × Int)} {Hc Hr Hc' Hr' Hd : mjH} {rc rr rd : Option Value ⊕ Nat} {Ld : mjL} (hc : cG Hc Q cs tx n s o) (hr : rG Hr rs tx n s o) (q3 : Pn none m 107 0 [(0, .ref 1), (1, .ref Q)] [] Hc rc Hc') (hLd : LG Ld [(0, .ref 78)]) (qd : Pn none mr 231 0 [(0, .ref 78)] [] Hr rd Hd) (kd : Kt mr 230 118 Ld [] rd Hd rr Hr') : tO Q (pY (4 + 2 * (6 - o))) cs rs tx n s o rc Hc' rr Hr' := by
  obtain ⟨L4, hL4, r4, H4, q4, k4⟩ := g_l0 hc.1.1 hQ ⟨rfl, rfl, trivial⟩ q3
  have lc := hc.2.2.2.1
  rcases hsum m mr s cs rs _ _ _ _ _ _ hc hr q4 qd with ⟨b1, b2⟩ | ⟨s1, sg1, l1, e1, e2, cg1, rg1, hd1⟩
  · exact Or.inl ⟨cBd (M := cM55) (sS := []) cIn55 (by decide +kernel) rfl rfl (by decide +kernel) (gQ hQ hL4) b1 k4 trivial, rBd (M := rM24) (sS := []) rIn24 (by decide +kernel) rfl rfl (by decide +kernel) (m0 hLd) b2 kd trivial⟩
  rw [e1] at k4
  rw [e2] at kd
  have la : (cs ++ sg1.map tgE).length = cs.length + sg1.length := by rw [List.length_append, List.length_map]
  obtain ⟨L5, hL5, r5, H5, q5, k5⟩ := g_l1 cg1.1.1 hQ hL4 (Kt_v k4)
  obtain ⟨Le, hLe, re, He, qe, ke⟩ := h_o11 rg1.1 hLd (Kt_v kd)
  have go : ∀ (w sg : Int) (s2 : Nat) (L6 : mjL) (H6 : mjH) (Lf : mjL) (Hf : mjH) (rf : Option Value ⊕ Nat) (Hf2 : mjH), (w = 5 ∨ w = 6 ∨ w = 7) → sg = 1998 + w → s1 + 1 ≤ s2 → cG H6 Q (cs ++ sg1.map tgE) tx n s2 o → rG Hf (rs ++ sg1) tx n s2 o → LG L6 [(0, .ref 1), (1, .ref Q), (2, .int (Int32.ofInt sg))] → Pn none m 107 59 L6 [] H6 rc Hc' → LG Lf [(0, .ref 78), (1, .int (Int32.ofInt w))] → Pn none mr 231 0 [(0, .ref 78)] [] Hf rf Hf2 → Kt mr 230 179 Lf [] rf Hf2 rr Hr' → tO Q (pY (4 + 2 * (6 - o))) cs rs tx n s o rc Hc' rr Hr' := by
    intro w sg s2 L6 H6 Lf Hf rf Hf2 hw hsg l2 cg rg hL6 h hLf q k
    obtain ⟨L7, hL7, r7, H7, q7, k7⟩ := g_l6 cg.1.1 hQ hL6 h
    rcases hsum m mr s2 _ _ _ _ _ _ _ _ cg rg q7 q with ⟨b1, b2⟩ | ⟨s3, sg2, l3, e1, e2, cg3, rg3, hd2⟩
    · exact Or.inl ⟨cBd (M := cM55) (sS := []) cIn55 (by decide +kernel) rfl rfl (by decide +kernel) (g1Qi hQ hL7) b1 k7 trivial, rBd (M := rM24) (sS := []) rIn24 (by decide +kernel) rfl rfl (by decide +kernel) (m1 hLf) b2 k trivial⟩
    rw [e1] at k7
    rw [e2] at k
    obtain ⟨L8, hL8, r8, H8, q8, k8⟩ := g_l7 cg3.1.1 hQ hL7 (Kt_v k7)
    have lb : (cs ++ sg1.map tgE ++ sg2.map tgE).length = cs.length + sg1.length + sg2.length := by rw [List.length_append, la, List.length_map]
    obtain ⟨cg4, h⟩ := cG_add hQ cg3 (by rw [lb]; omega) q8 k8
    obtain ⟨e1, e2⟩ := g_l8 cg4.1.1 hL8 h
    obtain ⟨Lg, hLg, rg', Hg, qg, kg⟩ := h_o16 rg3.1 hLf (Kt_v k)
    obtain ⟨rg4, hh⟩ := rG_say rg3 (w := w) (v := 0) ⟨(by show 0 ≤ w ∧ w ≤ 10; omega), fun z => (by have z : w = 1 := z; omega), fun z => (by have z : w = 0 := z; omega)⟩ qg kg
    obtain ⟨f1, f2⟩ := h_o17 rg4.1 hLg hh
    have ht : [(w, (0 : Int))].map tgE = [sg] := by
      rw [hsg]
      rcases hw with rfl | rfl | rfl <;> rfl
    refine Or.inr ⟨s3, sg1 ++ (sg2 ++ [(w, 0)]), ⟨?_, by omega⟩, e1, f1, ?_, ?_, ?_⟩
    · rw [List.length_append, List.length_append, List.length_singleton]
      omega
    · rw [e2, List.map_append, List.map_append, ht, ← List.append_assoc, ← List.append_assoc]
      exact cg4
    · rw [f2, ← List.append_assoc, ← List.append_assoc]
      exact rg4
    · obtain ⟨d1, h1⟩ := hd1
      obtain ⟨d2, h2⟩ := hd2
      exact ⟨_, tgY_rel h1 h2 (by omega) hw⟩
  rcases rG_tsg (c := 60) rg1 (by decide) qe ke with ⟨g, s2, z2, rg, hh⟩ | ⟨g, rg, hh⟩
  · rcases cG_sig cg1 (fS (by decide)) q5 k5 with ⟨-, h⟩ | ⟨g2, -⟩
    rotate_left
    · exact absurd g g2
    obtain ⟨-, L6, hL6, r6, H6, q6, k6⟩ := fZ (g_l2 cg1.1.1 hQ hL5 h)
    obtain ⟨s3, z3, cg, h⟩ := cG_step hQ cg1 (ztEnd_sig g (fS (by decide))) q6 k6
    rw [ztRun_un z2 z3] at rg
    obtain ⟨-, Lf, hLf, rf, Hf, qf, kf⟩ := fZ (h_o12 rg.1 hLe hh)
    exact go 5 2003 s3 _ _ _ _ _ _ (Or.inl rfl) (by decide) z3.1 cg rg hL6 h hLf qf kf
  rcases cG_sig cg1 (fS (by decide)) q5 k5 with ⟨g2, -⟩ | ⟨-, h⟩
  · exact absurd g2 g
  obtain ⟨-, L6, hL6, r6, H6, q6, k6⟩ := fO (g_l2 cg1.1.1 hQ hL5 h)
  obtain ⟨-, Lf, hLf, rf, Hf, qf, kf⟩ := fO (h_o12 rg.1 hLe hh)
  rcases rG_tsg (c := 62) rg (by decide) qf kf with ⟨g2, s2, z2, rg2, hh⟩ | ⟨g2, rg2, hh⟩
  · rcases cG_sig cg1 (fS (by decide)) q6 k6 with ⟨-, h⟩ | ⟨g3, -⟩
    rotate_left
    · exact absurd g2 g3
    obtain ⟨-, L7, hL7, r7, H7, q7, k7⟩ := fZ (g_l3 cg1.1.1 hQ hL6 h)
    obtain ⟨s3, z3, cg, h⟩ := cG_step hQ cg1 (ztEnd_sig g2 (fS (by decide))) q7 k7
    rw [ztRun_un z2 z3] at rg2
    obtain ⟨-, Lg, hLg, rg', Hg, qg, kg⟩ := fZ (h_o13 rg2.1 hLf hh)
    exact go 6 2004 s3 _ _ _ _ _ _ (Or.inr (Or.inl rfl)) (by decide) z3.1 cg rg2 hL7 h hLg qg kg
  rcases cG_sig cg1 (fS (by decide)) q6 k6 with ⟨g3, -⟩ | ⟨-, h⟩
  · exact absurd g3 g2
  obtain ⟨-, L7, hL7, r7, H7, q7, k7⟩ := fO (g_l3 cg1.1.1 hQ hL6 h)
  obtain ⟨-, Lg, hLg, rg', Hg, qg, kg⟩ := fO (h_o13 rg2.1 hLf hh)
  rcases rG_tsg (c := 61) rg2 (by decide) qg kg with ⟨g3, s2, z2, rg3, hh⟩ | ⟨g3, rg3, hh⟩
  · rcases cG_sig cg1 (fS (by decide)) q7 k7 with ⟨-, h⟩ | ⟨g4, -⟩
    rotate_left
    · exact absurd g3 g4
    obtain ⟨L8, hL8, r8, H8, q8, k8⟩ := fNZ (g_l4 cg1.1.1 hQ hL7 h)
    obtain ⟨s3, z3, cg, h⟩ := cG_step hQ cg1 (ztEnd_sig g3 (fS (by decide))) q8 k8
    rw [ztRun_un z2 z3] at rg3
    obtain ⟨-, Lh, hLh, rh, Hh, qh, kh⟩ := fZ (h_o14 rg3.1 hLg hh)
    exact go 7 2005 s3 _ _ _ _ _ _ (Or.inr (Or.inr rfl)) (by decide) z3.1 cg rg3 hL8 h hLh qh kh
  rcases cG_sig cg1 (fS (by decide)) q7 k7 with ⟨g4, -⟩ | ⟨-, h⟩
  · exact absurd g4 g3
  obtain ⟨L8, hL8, r8, H8, q8, k8⟩ := fNO (g_l4 cg1.1.1 hQ hL7 h)
  obtain ⟨b1, b2, h⟩ := cG_fail cg1 (by decide) q8 k8
  obtain ⟨-, Lh, hLh, rh, Hh, qh, kh⟩ := fO (h_o14 rg3.1 hLg hh)
  obtain ⟨b3, b4, hh⟩ := rG_wr rg3 (by decide) qh kh
  exact Or.inl ⟨cEnd (M := cM55) (sS := []) cIn55 (by decide +kernel) rfl rfl (by decide +kernel) (gQi hQ hL8) b1 b2 h trivial, rEnd (M := rM24) (sS := []) rIn24 (by decide +kernel) rfl rfl (by decide +kernel) (m1 hLh) b3 b4 hh trivial⟩
/-- not, brackets, a relation -/
theorem tOn {Q : Nat} {tx : Nat → Nat} {n o : Nat} (hQ : Q = 19 ∨ Q = 23) (ho : o ≤ 6) (hsum : tP 108 231 (pX (3 + 2 * (6 - o))) Q tx n o) (hany : o < 6 → tP 104 228 (pY (4 + 2 * (6 - o))) Q tx n (o + 1)) (hone : o < 6 → tP 106 230 (pY (2 + 2 * (6 - o))) Q tx n (o + 1)) : tP 106 230 (pY (4 + 2 * (6 - o))) Q tx n o := by
  intro m mr s cs rs Hc Hr rc Hc' rr Hr' hc hr h hh
  have lc := hc.2.2.2.1
  obtain ⟨-, La, hLa, ra, Ha, qa, ka⟩ := (h_o0 hr.1 ⟨rfl, trivial⟩ hh).resolve_right (fun z => z.1 hr.2.2.1)
  obtain ⟨rp, hh⟩ := rG_bl hr qa ka
  obtain ⟨Lb, hLb, rb, Hb, qb, kb⟩ := h_o1 rp.1 hLa hh
  obtain ⟨rp2, hw⟩ := rG_isw (ws := [110, 111, 116]) (rP_g rp) (wOk_of rfl) (by decide) (by decide) (by decide) qb kb
  obtain ⟨L1, hL1, r1, H1, q1, k1⟩ := g_o0 hc.1.1 hQ ⟨rfl, rfl, trivial⟩ h
  rcases cG_isw hc tw_not (wOk_of rfl) q1 k1 with ⟨g, h⟩ | ⟨g, h⟩
  · -- not
    rcases hw with ⟨-, hh⟩ | ⟨g2, -⟩
    rotate_left
    · exact absurd g g2
    obtain ⟨-, L2, hL2, r2, H2, q2, k2⟩ := fZ (g_o1 hc.1.1 hQ hL1 h)
    obtain ⟨-, Lc, hLc, rc2, Hc2, qc, kc⟩ := fZ (h_o2 rp2.1 hLb hh)
    rcases cG_op hQ hc (ztWd_end g (by decide)) ho q2 k2 with ⟨ho6, s1, z1, cg, h⟩ | ⟨ho6, b1, b2, h⟩
    · rcases rP_op rp2 ho qc kc with ⟨-, rp3, hh⟩ | ⟨g2, -⟩
      rotate_left
      · omega
      obtain ⟨-, L3, hL3, r3, H3, q3, k3⟩ := fZ (g_o2 cg.1.1 hQ hL2 h)
      obtain ⟨Ld, hLd, rd, Hd, qd, kd⟩ := fNZ (h_o3 rp3.1 hLc hh)
      obtain ⟨s2, y1, rg, hh⟩ := rP_sk rp3 g qd kd
      rw [ztRun_un y1 z1] at rg
      have l0 : s + 3 ≤ s1 := z1.1
      obtain ⟨Le, hLe, re, He, qe, ke⟩ := h_o4 rg.1 hLd hh
      rcases hone ho6 m mr s1 cs rs _ _ _ _ _ _ cg rg q3 qe with ⟨b1, b2⟩ | ⟨s3, seg, l1, e1, e2, cg3, rg3, hd⟩
      · exact Or.inl ⟨cBd (M := cM45) (sS := []) cIn45 (by decide +kernel) rfl rfl (by decide +kernel) (gQ hQ hL3) b1 k3 trivial, rBd (M := rM24) (sS := []) rIn24 (by decide +kernel) rfl rfl (by decide +kernel) (m0 hLe) b2 ke trivial⟩
      rw [e1] at k3
      rw [e2] at ke
      obtain ⟨L4, hL4, r4, H4, q4, k4⟩ := g_o3 cg3.1.1 hQ hL3 (Kt_v k3)
      obtain ⟨cg4, h⟩ := cG_shut hQ cg3 q4 k4
      obtain ⟨L5, hL5, r5, H5, q5, k5⟩ := g_o4 cg4.1.1 hQ hL4 h
      obtain ⟨cg5, h⟩ := cG_add hQ cg4 (by rw [List.length_append, List.length_map]; omega) q5 k5
      obtain ⟨e1, e2⟩ := g_o5 cg5.1.1 hL5 h
      obtain ⟨Lf, hLf, rf, Hf, qf, kf⟩ := h_o5 rg3.1 hLe (Kt_v ke)
      obtain ⟨rg5, hh⟩ := rG_say rg3 (w := 8) (v := 0) ⟨by decide, fun z => absurd z (by decide), fun z => absurd z (by decide)⟩ qf kf
      obtain ⟨f1, f2⟩ := h_o6 rg5.1 hLf hh
      refine Or.inr ⟨s3, seg ++ [(8, 0)], ⟨?_, by omega⟩, e1, f1, ?_, ?_, ?_⟩
      · rw [List.length_append, List.length_singleton]
        omega
      · rw [e2, List.map_append, ← List.append_assoc]
        exact cg5
      · rw [f2, ← List.append_assoc]
        exact rG_dn rg5
      · obtain ⟨d, hd⟩ := hd
        exact pY_le ⟨_, tgY_not hd⟩ (by omega)
    · rcases rP_op rp2 ho qc kc with ⟨g2, -⟩ | ⟨-, b3, b4, hh⟩
      · omega
      exact Or.inl ⟨cEnd (M := cM45) (sS := [.inr false]) cIn45 (by decide +kernel) rfl rfl (by decide +kernel) (gQ hQ hL2) b1 b2 h ⟨⟨_, rfl⟩, trivial⟩, rEnd (M := rM24) (sS := [.inr false]) rIn24 (by decide +kernel) rfl rfl (by decide +kernel) (m0 hLc) b3 b4 hh ⟨⟨_, rfl⟩, trivial⟩⟩
  rcases hw with ⟨g2, -⟩ | ⟨-, hh⟩
  · exact absurd g2 g
  obtain ⟨-, L2, hL2, r2, H2, q2, k2⟩ := fO (g_o1 hc.1.1 hQ hL1 h)
  obtain ⟨-, Lc, hLc, rc2, Hc2, qc, kc⟩ := fO (h_o2 rp2.1 hLb hh)
  have hb := h_o7 rp2.1 hLc (rP_by rp2 qc kc)
  have hz := ztB_rg rp2.2.1.1 s
  rw [zz_eq] at hb
  rcases cG_sig hc (fS (by decide)) q2 k2 with ⟨g2, h⟩ | ⟨g2, h⟩
  · -- brackets
    obtain ⟨-, Ld, hLd, rd, Hd, qd, kd⟩ := hb.resolve_left (fun z => z.1 g2)
    obtain ⟨-, L3, hL3, r3, H3, q3, k3⟩ := fZ (g_o6 hc.1.1 hQ hL2 h)
    rcases cG_op hQ hc (ztEnd_sig g2 (fS (by decide))) ho q3 k3 with ⟨ho6, s1, z1, cg, h⟩ | ⟨ho6, b1, b2, h⟩
    · rcases rP_op rp2 ho qd kd with ⟨-, rp3, hh⟩ | ⟨g3, -⟩
      rotate_left
      · omega
      obtain ⟨-, L4, hL4, r4, H4, q4, k4⟩ := fZ (g_o7 cg.1.1 hQ hL3 h)
      obtain ⟨Le, hLe, re, He, qe, ke⟩ := fNZ (h_o8 rp3.1 hLd hh)
      obtain ⟨s2, y1, rg⟩ := rP_up rp3 (ztB_in g2 (by decide))
      rw [ztRun_un y1 z1] at rg
      have l0 := z1.1
      rcases hany ho6 m mr s1 cs rs _ _ _ _ _ _ cg rg q4 qe with ⟨b1, b2⟩ | ⟨s3, seg, l1, e1, e2, cg3, rg3, hd⟩
      · exact Or.inl ⟨cBd (M := cM45) (sS := []) cIn45 (by decide +kernel) rfl rfl (by decide +kernel) (gTk hL4) b1 k4 trivial, rBd (M := rM24) (sS := []) rIn24 (by decide +kernel) rfl rfl (by decide +kernel) (m0 hLe) b2 ke trivial⟩
      rw [e1] at k4
      rw [e2] at ke
      obtain ⟨L5, hL5, r5, H5, q5, k5⟩ := g_o8 cg3.1.1 hL4 (Kt_v k4)
      obtain ⟨Lf, hLf, rf, Hf, qf, kf⟩ := h_o9 rg3.1 hLe (Kt_v ke)
      rcases cG_ts hQ cg3 (fS (by decide)) q5 k5 with ⟨g3, s4, z4, cg4, h⟩ | ⟨g3, b1, b2, h⟩
      · rcases rG_sg rg3 (by decide) qf kf with ⟨-, s5, y5, rg5, hh⟩ | ⟨g4, -⟩
        rotate_left
        · exact absurd g3 g4
        rw [ztRun_un y5 z4] at rg5
        obtain ⟨L6, hL6, r6, H6, q6, k6⟩ := g_o9 cg4.1.1 hL5 h
        obtain ⟨cg6, h⟩ := cG_shut hQ cg4 q6 k6
        obtain ⟨e1, e2⟩ := g_o10 cg6.1.1 hL6 h
        obtain ⟨f1, f2⟩ := h_o10 rg5.1 hLf hh
        have l2 := z4.1
        refine Or.inr ⟨s4, seg, ⟨by omega, by omega⟩, e1, f1, ?_, ?_, hd⟩
        · rw [e2]
          exact cg6
        · rw [f2]
          exact rG_dn rg5
      · rcases rG_sg rg3 (by decide) qf kf with ⟨g4, -⟩ | ⟨-, b3, b4, hh⟩
        · exact absurd g4 g3
        exact Or.inl ⟨cEnd (M := cM45) (sS := []) cIn45 (by decide +kernel) rfl rfl (by decide +kernel) (gTk hL5) b1 b2 h trivial, rEnd (M := rM24) (sS := []) rIn24 (by decide +kernel) rfl rfl (by decide +kernel) (m0 hLf) b3 b4 hh trivial⟩
    · rcases rP_op rp2 ho qd kd with ⟨g3, -⟩ | ⟨-, b3, b4, hh⟩
      · omega
      exact Or.inl ⟨cEnd (M := cM45) (sS := [.inr false]) cIn45 (by decide +kernel) rfl rfl (by decide +kernel) (gQ hQ hL3) b1 b2 h ⟨⟨_, rfl⟩, trivial⟩, rEnd (M := rM24) (sS := [.inr false]) rIn24 (by decide +kernel) rfl rfl (by decide +kernel) (m0 hLd) b3 b4 hh ⟨⟨_, rfl⟩, trivial⟩⟩
  · -- a relation
    obtain ⟨-, Ld, hLd, rd, Hd, qd, kd⟩ := hb.resolve_right (fun z => z.1 g2)
    obtain ⟨-, L3, hL3, r3, H3, q3, k3⟩ := fO (g_o6 hc.1.1 hQ hL2 h)
    rcases tRe hQ hsum hc (rP_g rp2) q3 hLd qd kd with ⟨b1, b2⟩ | ⟨s3, seg, l1, e1, e2, cg3, rg3, hd⟩
    · exact Or.inl ⟨cBd (M := cM45) (sS := []) cIn45 (by decide +kernel) rfl rfl (by decide +kernel) (gN hL3) b1 k3 trivial, b2⟩
    rw [e1] at k3
    obtain ⟨f1, f2⟩ := g_o11 cg3.1.1 hL3 (Kt_v k3)
    refine Or.inr ⟨s3, seg, l1, f1, e2, ?_, rg3, hd⟩
    rw [f2]
    exact cg3
/-- and -/
theorem tEaL {Q : Nat} {tx : Nat → Nat} {n o : Nat} (hQ : Q = 19 ∨ Q = 23) (hsub : tP 106 230 (pY (4 + 2 * (6 - o))) Q tx n o) {s0 : Nat} {cs0 : List Int} {rs0 : List (Int × Int)} {rc rr : Option Value ⊕ Nat} {Hc' Hr' : mjH} : ∀ (m mr i s : Nat) (acc : List (Int × Int)) (L Lr : mjL) (Hc Hr : mjH), i ≤ s → acc.length + s0 ≤ s → s0 < s → pY (5 + 2 * (6 - o)) acc → cG Hc Q (cs0 ++ acc.map tgE) tx n s o → rG Hr (rs0 ++ acc) tx n s o → LG L [(0, .ref 1), (1, .ref Q), (2, .int (Int32.ofInt (i : Int)))] → LG Lr [(0, .ref 78)] → Pn none m 105 7 L [] Hc rc Hc' → Pn none mr 229 4 Lr [] Hr rr Hr' → tO Q (pY (5 + 2 * (6 - o))) cs0 rs0 tx n s0 o rc Hc' rr Hr'
  | 0, _, _, _, _, _, _, _, _, _, _, _, _, _, _, _, _, h, _ => Pn0 h
  | m + 1, mr, i, s, acc, L, Lr, Hc, Hr, his, hac, hs0, hP, hc, hr, hL, hLr, h, hh => by
    have hn := hc.2.1
    have hsn := hc.1.2.2.1.2.2.1
    have lc := hc.2.2.2.1
    obtain ⟨La, hLa, ra, Ha, qa, ka⟩ := h_e1 hr.1 hLr hh
    have hb := g_eL hc.1.1 hQ hL h
    rw [zz_le] at hb
    rcases rG_tk (ws := [97, 110, 100]) hr (wOk_of rfl) (by decide) (by decide) (by decide) qa ka with ⟨g, s1, z1, rg, hh⟩ | ⟨g, rg, hh⟩
    · -- once more
      have hlt : s < n := fW_len g (by decide)
      obtain ⟨-, L1, hL1, r1, H1, q1, k1⟩ := hb.resolve_left (fun z => (by have := z.1; omega))
      rcases cG_isw hc tw_and (wOk_of rfl) q1 k1 with ⟨-, h⟩ | ⟨g2, -⟩
      rotate_left
      · exact absurd g g2
      obtain ⟨-, L2, hL2, r2, H2, q2, k2⟩ := fZ (g_e2 hc.1.1 hQ hL1 h)
      obtain ⟨s2, z2, cg, h⟩ := cG_step hQ hc (ztWd_end g (by decide)) q2 k2
      rw [ztRun_un z1 z2] at rg
      have l0 := z2.1
      try simp only [List.length_cons, List.length_nil] at l0
      obtain ⟨L3, hL3, r3, H3, q3, k3⟩ := g_e3 cg.1.1 hQ hL2 h
      obtain ⟨-, Lb, hLb, rb, Hb, qb, kb⟩ := fZ (h_e2 rg.1 hLa hh)
      rcases hsub m mr s2 _ _ _ _ _ _ _ _ cg rg q3 qb with ⟨b1, b2⟩ | ⟨s3, seg, l1, e1, e2, cg3, rg3, hd⟩
      · exact Or.inl ⟨cBd (M := cM36) (sS := []) cIn36 (by decide +kernel) rfl rfl (by decide +kernel) (gQi hQ hL3) b1 k3 trivial, rBd (M := rM21) (sS := []) rIn21 (by decide +kernel) rfl rfl (by decide +kernel) (m0 hLb) b2 kb trivial⟩
      rw [e1] at k3
      rw [e2] at kb
      obtain ⟨L4, hL4, r4, H4, q4, k4⟩ := g_e4 cg3.1.1 hQ hL3 (Kt_v k3)
      have la : (cs0 ++ acc.map tgE).length = cs0.length + acc.length := by rw [List.length_append, List.length_map]
      have lb : (cs0 ++ acc.map tgE ++ seg.map tgE).length = cs0.length + acc.length + seg.length := by rw [List.length_append, la, List.length_map]
      rw [la] at lc
      obtain ⟨cg4, h⟩ := cG_add hQ cg3 (by rw [lb]; omega) q4 k4
      obtain ⟨L5, hL5, h⟩ := g_e5 cg4.1.1 hQ hL4 h
      obtain ⟨Lc, hLc, rc4, Hc4, qc, kc⟩ := h_e3 rg3.1 hLb (Kt_v kb)
      obtain ⟨rg4, hh⟩ := rG_say rg3 (w := 9) (v := 0) ⟨by decide, fun z => absurd z (by decide), fun z => absurd z (by decide)⟩ qc kc
      obtain ⟨Ld, hLd, hh⟩ := h_e4 rg4.1 hLc hh
      rw [zz_add] at hL5
      have hi1 : ((i : Int) + 1) = ((i + 1 : Nat) : Int) := by omega
      rw [hi1] at hL5
      refine tEaL hQ hsub m mr (i + 1) s3 (acc ++ (seg ++ [(9, 0)])) L5 Ld _ _ (by omega) ?_ (by omega) ?_ ?_ ?_ hL5 hLd h hh
      · rw [List.length_append, List.length_append, List.length_singleton]
        omega
      · obtain ⟨d1, hd1⟩ := hP
        obtain ⟨d2, hd2⟩ := hd
        exact ⟨_, tgY_and hd1 hd2 (by omega) (by decide)⟩
      · rw [List.map_append, List.map_append, ← List.append_assoc, ← List.append_assoc]
        exact cg4
      · rw [← List.append_assoc, ← List.append_assoc]
        exact rg4
    · -- no more
      obtain ⟨-, f1, f2⟩ := fO (h_e2 rg.1 hLa hh)
      have e : rc = .inl none ∧ Hc' = Hc := by
        rcases hb with ⟨-, e1, e2⟩ | ⟨-, L1, hL1, r1, H1, q1, k1⟩
        · exact ⟨e1, e2⟩
        rcases cG_isw hc tw_and (wOk_of rfl) q1 k1 with ⟨g2, -⟩ | ⟨-, h⟩
        · exact absurd g2 g
        exact (fO (g_e2 hc.1.1 hQ hL1 h)).2
      refine Or.inr ⟨s, acc, ⟨hac, hs0⟩, e.1, f1, ?_, ?_, hP⟩
      · rw [e.2]
        exact hc
      · rw [f2]
        exact rg
theorem tEa {Q : Nat} {tx : Nat → Nat} {n o : Nat} (hQ : Q = 19 ∨ Q = 23) (hsub : tP 106 230 (pY (4 + 2 * (6 - o))) Q tx n o) : tP 105 229 (pY (5 + 2 * (6 - o))) Q tx n o := by
  intro m mr s cs rs Hc Hr rc Hc' rr Hr' hc hr h hh
  obtain ⟨L1, hL1, r1, H1, q1, k1⟩ := g_e0 hc.1.1 hQ ⟨rfl, rfl, trivial⟩ h
  obtain ⟨La, hLa, ra, Ha, qa, ka⟩ := h_e0 hr.1 ⟨rfl, trivial⟩ hh
  rcases hsub m mr s _ _ _ _ _ _ _ _ hc hr q1 qa with ⟨b1, b2⟩ | ⟨s3, seg, l1, e1, e2, cg3, rg3, hd⟩
  · exact Or.inl ⟨cBd (M := cM36) (sS := []) cIn36 (by decide +kernel) rfl rfl (by decide +kernel) (gQ hQ hL1) b1 k1 trivial, rBd (M := rM21) (sS := []) rIn21 (by decide +kernel) rfl rfl (by decide +kernel) (m0 hLa) b2 ka trivial⟩
  rw [e1] at k1
  rw [e2] at ka
  obtain ⟨L2, hL2, h⟩ := g_e1 cg3.1.1 hQ hL1 (Kt_v k1)
  exact tEaL hQ hsub m mr 0 s3 seg L2 La _ _ (Nat.zero_le _) l1.1 l1.2 (pY_le hd (by omega)) cg3 rg3 hL2 hLa h (Kt_v ka)
/-- or -/
theorem tAnL {Q : Nat} {tx : Nat → Nat} {n o : Nat} (hQ : Q = 19 ∨ Q = 23) (hsub : tP 105 229 (pY (5 + 2 * (6 - o))) Q tx n o) {s0 : Nat} {cs0 : List Int} {rs0 : List (Int × Int)} {rc rr : Option Value ⊕ Nat} {Hc' Hr' : mjH} : ∀ (m mr i s : Nat) (acc : List (Int × Int)) (L Lr : mjL) (Hc Hr : mjH), i ≤ s → acc.length + s0 ≤ s → s0 < s → pY (6 + 2 * (6 - o)) acc → cG Hc Q (cs0 ++ acc.map tgE) tx n s o → rG Hr (rs0 ++ acc) tx n s o → LG L [(0, .ref 1), (1, .ref Q), (2, .int (Int32.ofInt (i : Int)))] → LG Lr [(0, .ref 78)] → Pn none m 104 7 L [] Hc rc Hc' → Pn none mr 228 4 Lr [] Hr rr Hr' → tO Q (pY (6 + 2 * (6 - o))) cs0 rs0 tx n s0 o rc Hc' rr Hr'
  | 0, _, _, _, _, _, _, _, _, _, _, _, _, _, _, _, _, h, _ => Pn0 h
  | m + 1, mr, i, s, acc, L, Lr, Hc, Hr, his, hac, hs0, hP, hc, hr, hL, hLr, h, hh => by
    have hn := hc.2.1
    have hsn := hc.1.2.2.1.2.2.1
    have lc := hc.2.2.2.1
    obtain ⟨La, hLa, ra, Ha, qa, ka⟩ := h_a1 hr.1 hLr hh
    have hb := g_aL hc.1.1 hQ hL h
    rw [zz_le] at hb
    rcases rG_tk (ws := [111, 114]) hr (wOk_of rfl) (by decide) (by decide) (by decide) qa ka with ⟨g, s1, z1, rg, hh⟩ | ⟨g, rg, hh⟩
    · -- once more
      have hlt : s < n := fW_len g (by decide)
      obtain ⟨-, L1, hL1, r1, H1, q1, k1⟩ := hb.resolve_left (fun z => (by have := z.1; omega))
      rcases cG_isw hc tw_or (wOk_of rfl) q1 k1 with ⟨-, h⟩ | ⟨g2, -⟩
      rotate_left
      · exact absurd g g2
      obtain ⟨-, L2, hL2, r2, H2, q2, k2⟩ := fZ (g_a2 hc.1.1 hQ hL1 h)
      obtain ⟨s2, z2, cg, h⟩ := cG_step hQ hc (ztWd_end g (by decide)) q2 k2
      rw [ztRun_un z1 z2] at rg
      have l0 := z2.1
      try simp only [List.length_cons, List.length_nil] at l0
      obtain ⟨L3, hL3, r3, H3, q3, k3⟩ := g_a3 cg.1.1 hQ hL2 h
      obtain ⟨-, Lb, hLb, rb, Hb, qb, kb⟩ := fZ (h_a2 rg.1 hLa hh)
      rcases hsub m mr s2 _ _ _ _ _ _ _ _ cg rg q3 qb with ⟨b1, b2⟩ | ⟨s3, seg, l1, e1, e2, cg3, rg3, hd⟩
      · exact Or.inl ⟨cBd (M := cM29) (sS := []) cIn29 (by decide +kernel) rfl rfl (by decide +kernel) (gQi hQ hL3) b1 k3 trivial, rBd (M := rM17) (sS := []) rIn17 (by decide +kernel) rfl rfl (by decide +kernel) (m0 hLb) b2 kb trivial⟩
      rw [e1] at k3
      rw [e2] at kb
      obtain ⟨L4, hL4, r4, H4, q4, k4⟩ := g_a4 cg3.1.1 hQ hL3 (Kt_v k3)
      have la : (cs0 ++ acc.map tgE).length = cs0.length + acc.length := by rw [List.length_append, List.length_map]
      have lb : (cs0 ++ acc.map tgE ++ seg.map tgE).length = cs0.length + acc.length + seg.length := by rw [List.length_append, la, List.length_map]
      rw [la] at lc
      obtain ⟨cg4, h⟩ := cG_add hQ cg3 (by rw [lb]; omega) q4 k4
      obtain ⟨L5, hL5, h⟩ := g_a5 cg4.1.1 hQ hL4 h
      obtain ⟨Lc, hLc, rc4, Hc4, qc, kc⟩ := h_a3 rg3.1 hLb (Kt_v kb)
      obtain ⟨rg4, hh⟩ := rG_say rg3 (w := 10) (v := 0) ⟨by decide, fun z => absurd z (by decide), fun z => absurd z (by decide)⟩ qc kc
      obtain ⟨Ld, hLd, hh⟩ := h_a4 rg4.1 hLc hh
      rw [zz_add] at hL5
      have hi1 : ((i : Int) + 1) = ((i + 1 : Nat) : Int) := by omega
      rw [hi1] at hL5
      refine tAnL hQ hsub m mr (i + 1) s3 (acc ++ (seg ++ [(10, 0)])) L5 Ld _ _ (by omega) ?_ (by omega) ?_ ?_ ?_ hL5 hLd h hh
      · rw [List.length_append, List.length_append, List.length_singleton]
        omega
      · obtain ⟨d1, hd1⟩ := hP
        obtain ⟨d2, hd2⟩ := hd
        exact ⟨_, tgY_and hd1 hd2 (by omega) (by decide)⟩
      · rw [List.map_append, List.map_append, ← List.append_assoc, ← List.append_assoc]
        exact cg4
      · rw [← List.append_assoc, ← List.append_assoc]
        exact rg4
    · -- no more
      obtain ⟨-, f1, f2⟩ := fO (h_a2 rg.1 hLa hh)
      have e : rc = .inl none ∧ Hc' = Hc := by
        rcases hb with ⟨-, e1, e2⟩ | ⟨-, L1, hL1, r1, H1, q1, k1⟩
        · exact ⟨e1, e2⟩
        rcases cG_isw hc tw_or (wOk_of rfl) q1 k1 with ⟨g2, -⟩ | ⟨-, h⟩
        · exact absurd g2 g
        exact (fO (g_a2 hc.1.1 hQ hL1 h)).2
      refine Or.inr ⟨s, acc, ⟨hac, hs0⟩, e.1, f1, ?_, ?_, hP⟩
      · rw [e.2]
        exact hc
      · rw [f2]
        exact rg
theorem tAn {Q : Nat} {tx : Nat → Nat} {n o : Nat} (hQ : Q = 19 ∨ Q = 23) (hsub : tP 105 229 (pY (5 + 2 * (6 - o))) Q tx n o) : tP 104 228 (pY (6 + 2 * (6 - o))) Q tx n o := by
  intro m mr s cs rs Hc Hr rc Hc' rr Hr' hc hr h hh
  obtain ⟨L1, hL1, r1, H1, q1, k1⟩ := g_a0 hc.1.1 hQ ⟨rfl, rfl, trivial⟩ h
  obtain ⟨La, hLa, ra, Ha, qa, ka⟩ := h_a0 hr.1 ⟨rfl, trivial⟩ hh
  rcases hsub m mr s _ _ _ _ _ _ _ _ hc hr q1 qa with ⟨b1, b2⟩ | ⟨s3, seg, l1, e1, e2, cg3, rg3, hd⟩
  · exact Or.inl ⟨cBd (M := cM29) (sS := []) cIn29 (by decide +kernel) rfl rfl (by decide +kernel) (gQ hQ hL1) b1 k1 trivial, rBd (M := rM17) (sS := []) rIn17 (by decide +kernel) rfl rfl (by decide +kernel) (m0 hLa) b2 ka trivial⟩
  rw [e1] at k1
  rw [e2] at ka
  obtain ⟨L2, hL2, h⟩ := g_a1 cg3.1.1 hQ hL1 (Kt_v k1)
  exact tAnL hQ hsub m mr 0 s3 seg L2 La _ _ (Nat.zero_le _) l1.1 l1.2 (pY_le hd (by omega)) cg3 rg3 hL2 hLa h (Kt_v ka)
theorem tLv {Q : Nat} {tx : Nat → Nat} {n o : Nat} (hQ : Q = 19 ∨ Q = 23) (ho : o ≤ 6) (hsum : o < 6 → tP 108 231 (pX (1 + 2 * (6 - o))) Q tx n (o + 1)) (hany : o < 6 → tP 104 228 (pY (4 + 2 * (6 - o))) Q tx n (o + 1)) (hone : o < 6 → tP 106 230 (pY (2 + 2 * (6 - o))) Q tx n (o + 1)) : tP 108 231 (pX (3 + 2 * (6 - o))) Q tx n o ∧ tP 104 228 (pY (6 + 2 * (6 - o))) Q tx n o ∧ tP 106 230 (pY (4 + 2 * (6 - o))) Q tx n o := by
  have s := tSm hQ (tPr hQ (tV hQ ho hsum))
  have p := tOn hQ ho s hany hone
  exact ⟨s, tAn hQ (tEa hQ p), p⟩
theorem tAl {Q : Nat} {tx : Nat → Nat} {n : Nat} (hQ : Q = 19 ∨ Q = 23) : ∀ (k o : Nat), o + k = 6 → tP 108 231 (pX (3 + 2 * (6 - o))) Q tx n o ∧ tP 104 228 (pY (6 + 2 * (6 - o))) Q tx n o ∧ tP 106 230 (pY (4 + 2 * (6 - o))) Q tx n o
  | 0, o, h => tLv hQ (by omega) (fun z => by omega) (fun z => by omega) (fun z => by omega)
  | k + 1, o, h => by
    obtain ⟨a, b, c⟩ := tAl hQ k (o + 1) (by omega)
    rw [show 3 + 2 * (6 - (o + 1)) = 1 + 2 * (6 - o) by omega] at a
    rw [show 6 + 2 * (6 - (o + 1)) = 4 + 2 * (6 - o) by omega] at b
    rw [show 4 + 2 * (6 - (o + 1)) = 2 + 2 * (6 - o) by omega] at c
    exact tLv hQ (by omega) (fun _ => a) (fun _ => b) (fun _ => c)
/-- from the first level: one text of a rule -/
theorem tAny {Q : Nat} {tx : Nat → Nat} {n : Nat} (hQ : Q = 19 ∨ Q = 23) : tP 104 228 (pY 18) Q tx n 0 := (tAl hQ 6 0 rfl).2.1
end PCTP

/-! PC: the judge's call, both sides -/
section PCJD
variable {m : Nat} {L : mjL} {S : List Value} {H H' H0 H1 H2 Hc : mjH} {r r1 r2 : Option Value ⊕ Nat} {J Q : Nat} {ru : tgRu} {y : Nat → Int32} {x1 x2 x3 x4 : Int32}
theorem kEx_at {sc : Option (List Int32)} {k pc E hpc : Nat} (e : mjCatch ((kHh k).zip (mjHd k)) pc E = some hpc) (h : kEx sc m k pc L E H2 r H') : (∃ j y, mjAtI k hpc = some (.astore_n j, y) ∧ Pn sc m k (hpc + 1) (mjDel (j : Nat) L) [] H2 r H') ∨ ∃ j y, mjAtI k hpc = some (.astore j, y) ∧ Pn sc m k (hpc + 2) (mjDel j L) [] H2 r H' := by
  unfold kEx at h
  rw [e] at h
  exact h
theorem Kt_x {k0 pc0 E : Nat} (k : Kt m k0 pc0 L S (.inr E) H2 r H') : r = .inr E ∧ H' = H2 := by
  rcases k with ⟨u, e, -⟩ | ⟨E2, e, k1, k2⟩
  · cases e
  · cases e
    exact ⟨k1, k2⟩
theorem cod_rg : ∀ {rs : tgRu}, tgOk rs → ruB rs → ∀ c, c ∈ tgCode rs → 0 ≤ c ∧ c < 4000 := by
  intro rs ho hb c hc
  unfold tgCode at hc
  obtain ⟨q, q1, q2⟩ := List.mem_flatMap.mp hc
  rcases List.mem_append.mp q2 with z | z
  · obtain ⟨p, p1, p2⟩ := List.mem_map.mp z
    obtain ⟨⟨a1, a2⟩, a3, a4⟩ := hb q q1 p p1
    rw [← p2]
    unfold tgE
    split
    · rename_i e
      have := a4 e
      omega
    · split
      · rename_i e
        have := a3 e
        omega
      · split
        · omega
        · split
          · omega
          · split
            · omega
            · omega
  · have z := List.mem_singleton.mp z
    have o := (ho q q1).1
    omega
/-- the class's refusals -/
theorem k30 : kA 30 100 3 false = true := by decide +kernel
theorem cn_p (hT : HT H) (h : Pn none m 171 0 [(0, .ref 0)] [] H r H') : r = .inr 0 ∧ HT H' ∧ ∀ a b, a ≠ 30 → sxEl H' a b = sxEl H a b := by
  obtain ⟨e1, e2⟩ := a_p0 hT ⟨rfl, trivial⟩ h
  refine ⟨e1, ?_, fun a b z => ?_⟩
  · rw [e2]
    exact HT.pI hT k30
  · rw [e2, sxEl_ne (fun q => z q.1)]
theorem cn_a (hT : HT H) (h : Pn none m 172 0 [(0, .ref 0)] [] H r H') : r = .inr 1 ∧ HT H' ∧ ∀ a b, a ≠ 30 → sxEl H' a b = sxEl H a b := by
  obtain ⟨e1, e2⟩ := a_r0 hT ⟨rfl, trivial⟩ h
  refine ⟨e1, ?_, fun a b z => ?_⟩
  · rw [e2]
    exact HT.pI hT k30
  · rw [e2, sxEl_ne (fun q => z q.1)]
def okS (H : mjH) (J : Nat) (x : Int32) : Prop := 0 ≤ x.toInt ∧ x.toInt < (gI H J 2).toInt
theorem i0_ti : (Int32.ofInt 0).toInt = 0 := by decide
theorem cn_s {x : Int32} (hT : HT H) (hJ : J = 3 ∨ J = 11) (j2 : gR H 0 2 = J) (h : Pn none m 174 0 [(0, .ref 0), (1, .int x)] [] H r H') : (okS H J x ∧ r = .inl none ∧ H' = H) ∨ (¬ okS H J x ∧ r = .inr 0 ∧ HT H' ∧ ∀ a b, a ≠ 30 → sxEl H' a b = sxEl H a b) := by
  have hb := a_l0 hT hJ j2 ⟨rfl, rfl, trivial⟩ h
  have ref : ∀ (L1 : mjL) (r2 : Option Value ⊕ Nat) (H2 : mjH), Pn none m 171 0 [(0, .ref 0)] [] H r2 H2 → Kt m 174 19 L1 [] r2 H2 r H' → r = .inr 0 ∧ HT H' ∧ ∀ a b, a ≠ 30 → sxEl H' a b = sxEl H a b := by
    intro L1 r2 H2 q k
    obtain ⟨e, t, f⟩ := cn_p hT q
    rw [e] at k
    obtain ⟨k1, k2⟩ := Kt_x k
    rw [k2]
    exact ⟨k1, t, f⟩
  simp only [Int32.lt_iff_toInt_lt, i0_ti] at hb
  unfold okS
  rcases hb with ⟨g, L1, -, r2, H2, q, k⟩ | ⟨g, ⟨g2, e1, e2⟩ | ⟨g2, L1, -, r2, H2, q, k⟩⟩
  · exact Or.inr ⟨fun z => by omega, ref L1 r2 H2 q k⟩
  · exact Or.inl ⟨⟨by omega, g2⟩, e1, e2⟩
  · exact Or.inr ⟨fun z => g2 z.2, ref L1 r2 H2 q k⟩
theorem cn_b {x : Int32} {M : Int} (hM : 0 ≤ M ∧ M ≤ 1000) (hT : HT H) (h : Pn none m 175 0 [(0, .ref 0), (1, .int x), (2, .int (Int32.ofInt M))] [] H r H') : ((0 ≤ x.toInt ∧ x.toInt < M) ∧ r = .inl none ∧ H' = H) ∨ (¬ (0 ≤ x.toInt ∧ x.toInt < M) ∧ r = .inr 1 ∧ HT H' ∧ ∀ a b, a ≠ 30 → sxEl H' a b = sxEl H a b) := by
  have hb := a_o0 hT ⟨rfl, rfl, rfl, trivial⟩ h
  have ref : ∀ (L1 : mjL) (r2 : Option Value ⊕ Nat) (H2 : mjH), Pn none m 172 0 [(0, .ref 0)] [] H r2 H2 → Kt m 175 13 L1 [] r2 H2 r H' → r = .inr 1 ∧ HT H' ∧ ∀ a b, a ≠ 30 → sxEl H' a b = sxEl H a b := by
    intro L1 r2 H2 q k
    obtain ⟨e, t, f⟩ := cn_a hT q
    rw [e] at k
    obtain ⟨k1, k2⟩ := Kt_x k
    rw [k2]
    exact ⟨k1, t, f⟩
  have eM : (Int32.ofInt M).toInt = M := zz_ti
  simp only [Int32.lt_iff_toInt_lt, i0_ti, eM] at hb
  rcases hb with ⟨g, L1, -, r2, H2, q, k⟩ | ⟨g, ⟨g2, e1, e2⟩ | ⟨g2, L1, -, r2, H2, q, k⟩⟩
  · exact Or.inr ⟨fun z => by omega, ref L1 r2 H2 q k⟩
  · exact Or.inl ⟨⟨by omega, g2⟩, e1, e2⟩
  · exact Or.inr ⟨fun z => g2 z.2, ref L1 r2 H2 q k⟩
theorem cn_w {x : Int32} (hT : HT H) (h : Pn none m 176 0 [(0, .ref 0), (1, .int x)] [] H r H') : ((0 ≤ x.toInt ∧ x.toInt < 52) ∧ r = .inl none ∧ H' = H) ∨ (¬ (0 ≤ x.toInt ∧ x.toInt < 52) ∧ r = .inr 1 ∧ HT H' ∧ ∀ a b, a ≠ 30 → sxEl H' a b = sxEl H a b) := by
  obtain ⟨L1, hL1, r2, H2, q, k⟩ := a_w0 hT ⟨rfl, rfl, trivial⟩ h
  rcases cn_b (M := 52) (by decide) hT q with ⟨g, e1, e2⟩ | ⟨g, e1, t, f⟩
  · rw [e1, e2] at k
    obtain ⟨e3, e4⟩ := a_w1 hT hL1 (Kt_v k)
    exact Or.inl ⟨g, e3, e4⟩
  · rw [e1] at k
    obtain ⟨k1, k2⟩ := Kt_x k
    rw [k2]
    exact Or.inr ⟨g, k1, t, f⟩
/-- the class's judge -/
def okB (x3 x4 : Int32) : Prop := (0 ≤ x3.toInt ∧ x3.toInt < 53) ∧ 0 ≤ x4.toInt ∧ x4.toInt < 52
def jdV (H : mjH) (J : Nat) (ru : tgRu) (x1 x2 x3 x4 : Int32) : Int := tmW (qv (fun q => gL H (J + 1) q) (fun v => gL H (J + 5) v) x1.toInt.toNat x2.toInt.toNat x3.toInt 0 1 x4.toInt.toNat) ru
theorem zz_nn0 {x : Int32} (h : 0 ≤ x.toInt) : x = Int32.ofInt ((x.toInt.toNat : Nat) : Int) := by
  rw [Int.toNat_of_nonneg h]
  exact zz_of x
theorem cjd (hI : pI H J Q ru) (sl : (gI H J 2).toInt ≤ 17) (h : Pn none m 166 0 [(0, .ref 0), (1, .int x1), (2, .int x2), (3, .int x3), (4, .int x4)] [] H r H') : HT H' ∧ (∀ a b, a ≠ 30 → ¬ (a = 21 ∨ a = 22 ∨ a = 25 ∨ a = 26) → sxEl H' a b = sxEl H a b) ∧ ((¬ (okS H J x1 ∧ okS H J x2) ∧ r = .inr 0) ∨ ((okS H J x1 ∧ okS H J x2) ∧ ¬ okB x3 x4 ∧ r = .inr 1) ∨ ((okS H J x1 ∧ okS H J x2) ∧ okB x3 x4 ∧ r = .inl (some (.int (Int32.ofInt (jdV H J ru x1 x2 x3 x4)))))) := by
  obtain ⟨hT, ⟨hJ, j2, j3⟩, ⟨hQ, g4, g5⟩, hS, ⟨hO, hB⟩, hN, ⟨c1, c2, c3⟩, hR⟩ := hI
  obtain ⟨L1, hL1, ra, Ha, qa, ka⟩ := a_g0 hT hJ hQ j2 g4 ⟨rfl, rfl, rfl, rfl, rfl, trivial⟩ h
  rcases cn_s hT hJ j2 qa with ⟨o1, e1, e2⟩ | ⟨o1, e1, t, f⟩
  rotate_left
  · rw [e1] at ka
    obtain ⟨k1, k2⟩ := Kt_x ka
    rw [k2]
    exact ⟨t, fun a b z _ => f a b z, Or.inl ⟨fun z => o1 z.1, k1⟩⟩
  rw [e1, e2] at ka
  obtain ⟨L2, hL2, rb, Hb, qb, kb⟩ := a_g1 hT hJ hQ j2 g4 hL1 (Kt_v ka)
  rcases cn_s hT hJ j2 qb with ⟨o2, e1, e2⟩ | ⟨o2, e1, t, f⟩
  rotate_left
  · rw [e1] at kb
    obtain ⟨k1, k2⟩ := Kt_x kb
    rw [k2]
    exact ⟨t, fun a b z _ => f a b z, Or.inl ⟨fun z => o2 z.2, k1⟩⟩
  rw [e1, e2] at kb
  obtain ⟨L3, hL3, rd, Hd, qd, kd⟩ := a_g2 hT hJ hQ j2 g4 hL2 (Kt_v kb)
  rcases cn_b (M := 53) (by decide) hT qd with ⟨o3, e1, e2⟩ | ⟨o3, e1, t, f⟩
  rotate_left
  · rw [e1] at kd
    obtain ⟨k1, k2⟩ := Kt_x kd
    rw [k2]
    exact ⟨t, fun a b z _ => f a b z, Or.inr (Or.inl ⟨⟨o1, o2⟩, fun z => o3 z.1, k1⟩)⟩
  rw [e1, e2] at kd
  obtain ⟨L4, hL4, re, He, qe, ke⟩ := a_g3 hT hJ hQ j2 g4 hL3 (Kt_v kd)
  rcases cn_w hT qe with ⟨o4, e1, e2⟩ | ⟨o4, e1, t, f⟩
  rotate_left
  · rw [e1] at ke
    obtain ⟨k1, k2⟩ := Kt_x ke
    rw [k2]
    exact ⟨t, fun a b z _ => f a b z, Or.inr (Or.inl ⟨⟨o1, o2⟩, fun z => o4 z.2, k1⟩)⟩
  rw [e1, e2] at ke
  obtain ⟨L5, hL5, rf, Hf, qf, kf⟩ := a_g4 hT hJ hQ j2 g4 hL4 (Kt_v ke)
  have u1 := o1.1
  have u2 := o1.2
  have u3 := o2.1
  have u4 := o2.2
  rw [zz_nn0 u1, zz_nn0 u3, zz_of x3, zz_nn0 o4.1] at qf
  obtain ⟨d1, d2, d3, d4⟩ := pc_tell (md := fun q => gL H (J + 1) q) (lf := fun v => gL H (J + 5) v) hT hQ hJ (by omega) (by omega) (by omega) (fun _ _ => rfl) (fun q hq => hS q hq) (fun _ _ => rfl) qf
  rw [d1] at kf
  obtain ⟨L6, hL6, rg, Hg, qg, kg⟩ := a_g5 d2 hJ hQ ((gR_cgE (d3 0 2 (by omega))).trans j2) ((gR_cgE (d3 0 4 (by omega))).trans g4) hL5 (Kt_v kf)
  obtain ⟨z1, z2⟩ := tgW_eq (vals := qv (fun q => gL H (J + 1) q) (fun v => gL H (J + 5) v) x1.toInt.toNat x2.toInt.toNat x3.toInt 0 1 x4.toInt.toNat) hO
  obtain ⟨y1, y2, y3⟩ := pt_who d2 hQ c2 (fun i c hc => cod_rg hO hB c (List.mem_of_getElem? hc)) z2 ((gI_cgE (d3 Q 2 (by omega))).trans c1) (fun i c hc => (gI_cgE (d3 (Q + 1) i (by omega))).trans (c3 i c hc)) d4 qg
  rw [y1] at kg
  obtain ⟨e5, e6⟩ := a_g6 y2 hJ hQ ((gR_cgE (y3 0 2 (by omega))).trans ((gR_cgE (d3 0 2 (by omega))).trans j2)) ((gR_cgE (y3 0 4 (by omega))).trans ((gR_cgE (d3 0 4 (by omega))).trans g4)) hL6 (Kt_i kg)
  rw [e6]
  refine ⟨y2, fun a b _ z => (y3 a b z).trans (d3 a b (by omega)), Or.inr (Or.inr ⟨⟨o1, o2⟩, ⟨o3, o4⟩, ?_⟩)⟩
  rw [e5, z1]
  rfl
/-- the reference's -/
theorem py_sl {x s : Int32} (hs : 0 ≤ s.toInt ∧ s.toInt ≤ 17) (h82 : gI H 82 1 = s) (hT : HT H) (h : Pn none m 243 0 [(0, .ref 78), (1, .int x)] [] H r H') : (((0 ≤ x.toInt ∧ x.toInt < s.toInt) ∧ r = .inl (some (.int (Int32.ofInt 1)))) ∨ (¬ (0 ≤ x.toInt ∧ x.toInt < s.toInt) ∧ r = .inl (some (.int (Int32.ofInt 0))))) ∧ H' = H := by
  have hy1 := Int32.le_toInt x
  have hy2 := Int32.toInt_lt x
  obtain ⟨L1, hL1, r2, H2, q, k⟩ := v_s0 hT ⟨rfl, rfl, trivial⟩ h
  rw [h82, zz_of x, zz_of s, zz_sub] at q
  obtain ⟨d1, d2⟩ := py_in hT ⟨by omega, by omega, by omega⟩ q
  rw [d2] at k
  rcases d1 with ⟨g, e⟩ | ⟨g, e⟩
  · rw [e] at k
    obtain ⟨e1, e2⟩ := v_s1 hT hL1 (Kt_i k)
    exact ⟨Or.inl ⟨by omega, e1⟩, e2⟩
  · rw [e] at k
    obtain ⟨e1, e2⟩ := v_s1 hT hL1 (Kt_i k)
    exact ⟨Or.inr ⟨by omega, e1⟩, e2⟩
theorem py_wk {x : Int32} (hT : HT H) (h : Pn none m 244 0 [(0, .int x)] [] H r H') : (((0 ≤ x.toInt ∧ x.toInt < 52) ∧ r = .inl (some (.int (Int32.ofInt 1)))) ∨ (¬ (0 ≤ x.toInt ∧ x.toInt < 52) ∧ r = .inl (some (.int (Int32.ofInt 0))))) ∧ H' = H := by
  have hy1 := Int32.le_toInt x
  have hy2 := Int32.toInt_lt x
  obtain ⟨L1, hL1, r2, H2, q, k⟩ := v_w0 hT ⟨rfl, trivial⟩ h
  rw [zz_of x] at q
  obtain ⟨d1, d2⟩ := py_in hT ⟨by omega, by omega, by omega⟩ q
  rw [d2] at k
  rcases d1 with ⟨g, e⟩ | ⟨g, e⟩
  · rw [e] at k
    obtain ⟨e1, e2⟩ := v_w1 hT hL1 (Kt_i k)
    exact ⟨Or.inl ⟨by omega, e1⟩, e2⟩
  · rw [e] at k
    obtain ⟨e1, e2⟩ := v_w1 hT hL1 (Kt_i k)
    exact ⟨Or.inr ⟨by omega, e1⟩, e2⟩
/-- the reference's judge -/
def rfr (H H' : mjH) : Prop := ∀ a b, ¬ (a = 78 ∧ b = 0) → a ≠ 80 → a ≠ 559 → a ≠ 569 → sxEl H' a b = sxEl H a b
def rJ (s x1 x2 x3 x4 : Int32) (V : Int) (H' : mjH) (r : Option Value ⊕ Nat) : Prop := (¬ ((0 ≤ x1.toInt ∧ x1.toInt < s.toInt) ∧ 0 ≤ x2.toInt ∧ x2.toInt < s.toInt) ∧ gI H' 78 0 = Int32.ofInt 1 ∧ ∃ v, r = .inl (some (.int v))) ∨ (((0 ≤ x1.toInt ∧ x1.toInt < s.toInt) ∧ 0 ≤ x2.toInt ∧ x2.toInt < s.toInt) ∧ ¬ okB x3 x4 ∧ gI H' 78 0 = Int32.ofInt 2 ∧ ∃ v, r = .inl (some (.int v))) ∨ (((0 ≤ x1.toInt ∧ x1.toInt < s.toInt) ∧ 0 ≤ x2.toInt ∧ x2.toInt < s.toInt) ∧ okB x3 x4 ∧ gI H' 78 0 = Int32.ofInt 0 ∧ r = .inl (some (.int (Int32.ofInt V))))
theorem rjd {md lf : Nat → Int64} {s : Int32} (hs : 0 ≤ s.toInt ∧ s.toInt ≤ 17) (hT : HT H) (hr : tmRu H ru (frO ru)) (hO : tgOk ru) (h82 : gI H 82 1 = s) (hm : ∀ q : Nat, (q : Int) < s.toInt → gL H 86 q = md q) (hl : ∀ v, v < 52 → gL H 89 v = lf v) (h : Pn none m 321 0 [(0, .ref 78), (1, .int x1), (2, .int x2), (3, .int x3), (4, .int x4)] [] H r H') : HT H' ∧ rfr H H' ∧ rJ s x1 x2 x3 x4 (tmW (qv md lf x1.toInt.toNat x2.toInt.toNat x3.toInt 0 1 x4.toInt.toNat) ru) H' r := by
  have hy1 := Int32.le_toInt x3
  have hy2 := Int32.toInt_lt x3
  obtain ⟨L1, hL1, ra, Ha, qa, ka⟩ := v_j0 hT ⟨rfl, rfl, rfl, rfl, rfl, trivial⟩ h
  have t0 := HT.pFI (x := Int32.ofInt 0) hT kF_78_0_9_false
  have th0 : gI (pV H 78 0 (.int (Int32.ofInt 0))) 78 0 = Int32.ofInt 0 := gI_fat hT kF_78_0_9_false
  have f0 : ∀ a b, ¬ (a = 78 ∧ b = 0) → sxEl (pV H 78 0 (.int (Int32.ofInt 0))) a b = sxEl H a b := fun a b z => sxEl_ne z
  have g82 : gI (pV H 78 0 (.int (Int32.ofInt 0))) 82 1 = s := (gI_cgE (f0 82 1 (by omega))).trans h82
  -- a refusal: no such piece
  have A1 : ∀ (L2 : mjL) (r3 : Option Value ⊕ Nat) (H3 : mjH), ¬ ((0 ≤ x1.toInt ∧ x1.toInt < s.toInt) ∧ 0 ≤ x2.toInt ∧ x2.toInt < s.toInt) → LG L2 [(0, .ref 78), (1, .int x1), (2, .int x2), (3, .int x3), (4, .int x4)] → Pn none m 197 0 [(0, .ref 78), (1, .int (Int32.ofInt 1)), (2, .int (Int32.ofInt 1)), (3, .int (Int32.ofInt 0))] [] (pV H 78 0 (.int (Int32.ofInt 0))) r3 H3 → Kt m 321 32 L2 [] r3 H3 r H' → HT H' ∧ rfr H H' ∧ rJ s x1 x2 x3 x4 (tmW (qv md lf x1.toInt.toNat x2.toInt.toNat x3.toInt 0 1 x4.toInt.toNat) ru) H' r := by
    intro L2 r3 H3 no hL2 q k
    obtain ⟨e1, t, e2, f⟩ := py_bd1 i1_ne t0 th0 q
    rw [e1] at k
    rcases v_j3 t hL2 (Kt_i k) with ⟨-, k1, k2⟩ | ⟨z, -⟩
    · rw [k2]
      exact ⟨t, fun a b z1 z2 _ _ => (f a b z1 z2).trans (f0 a b z1), Or.inl ⟨no, e2, _, k1⟩⟩
    · exact absurd i1_ne z
  obtain ⟨a1, a2⟩ := py_sl hs g82 t0 qa
  rw [a2] at ka
  rcases a1 with ⟨o1, e⟩ | ⟨o1, e⟩
  rotate_left
  · rw [e] at ka
    rcases v_j1 t0 hL1 (Kt_i ka) with ⟨-, L2, hL2, r3, H3, q3, k3⟩ | ⟨z, -⟩
    · exact A1 L2 r3 H3 (fun z => o1 z.1) hL2 q3 k3
    · exact absurd rfl z
  rw [e] at ka
  rcases v_j1 t0 hL1 (Kt_i ka) with ⟨z, -⟩ | ⟨-, L2, hL2, rb, Hb, qb, kb⟩
  · exact absurd z i1_ne
  obtain ⟨b1, b2⟩ := py_sl hs g82 t0 qb
  rw [b2] at kb
  rcases b1 with ⟨o2, e⟩ | ⟨o2, e⟩
  rotate_left
  · rw [e] at kb
    rcases v_j2 t0 hL2 (Kt_i kb) with ⟨z, -⟩ | ⟨-, L3, hL3, r3, H3, q3, k3⟩
    · exact absurd rfl z
    · exact A1 L3 r3 H3 (fun z => o2 z.2) hL3 q3 k3
  rw [e] at kb
  rcases v_j2 t0 hL2 (Kt_i kb) with ⟨-, L3, hL3, rc, Hc, qc, kc⟩ | ⟨z, -⟩
  rotate_left
  · exact absurd i1_ne z
  obtain ⟨c1, c2⟩ := py_bd0 t0 th0 qc
  rw [c1, c2] at kc
  rcases v_j3 t0 hL3 (Kt_i kc) with ⟨z, -⟩ | ⟨-, L4, hL4, rd, Hd, qd, kd⟩
  · exact absurd rfl z
  -- a refusal: no such argument
  have A2 : ∀ (L2 : mjL) (r3 : Option Value ⊕ Nat) (H3 : mjH), ¬ okB x3 x4 → LG L2 [(0, .ref 78), (1, .int x1), (2, .int x2), (3, .int x3), (4, .int x4)] → Pn none m 197 0 [(0, .ref 78), (1, .int (Int32.ofInt 1)), (2, .int (Int32.ofInt 2)), (3, .int (Int32.ofInt 1))] [] (pV H 78 0 (.int (Int32.ofInt 0))) r3 H3 → Kt m 321 64 L2 [] r3 H3 r H' → HT H' ∧ rfr H H' ∧ rJ s x1 x2 x3 x4 (tmW (qv md lf x1.toInt.toNat x2.toInt.toNat x3.toInt 0 1 x4.toInt.toNat) ru) H' r := by
    intro L2 r3 H3 no hL2 q k
    obtain ⟨e1, t, e2, f⟩ := py_bd1 i2_ne t0 th0 q
    rw [e1] at k
    rcases v_j6 t hL2 (Kt_i k) with ⟨z, -⟩ | ⟨-, k1, k2⟩
    · exact absurd z i1_ne
    · rw [k2]
      exact ⟨t, fun a b z1 z2 _ _ => (f a b z1 z2).trans (f0 a b z1), Or.inr (Or.inl ⟨⟨o1, o2⟩, no, e2, _, k1⟩)⟩
  rw [zz_of x3] at qd
  obtain ⟨d1, d2⟩ := py_in t0 ⟨by omega, by omega, by omega⟩ qd
  rw [d2] at kd
  rcases d1 with ⟨o3, e⟩ | ⟨o3, e⟩
  rotate_left
  · rw [e] at kd
    rcases v_j4 t0 hL4 (Kt_i kd) with ⟨-, L5, hL5, r3, H3, q3, k3⟩ | ⟨z, -⟩
    · exact A2 L5 r3 H3 (fun z => o3 (by have z1 := z.1; omega)) hL5 q3 k3
    · exact absurd rfl z
  rw [e] at kd
  rcases v_j4 t0 hL4 (Kt_i kd) with ⟨z, -⟩ | ⟨-, L5, hL5, re, He, qe, ke⟩
  · exact absurd z i1_ne
  obtain ⟨e1, e2⟩ := py_wk t0 qe
  rw [e2] at ke
  rcases e1 with ⟨o4, e⟩ | ⟨o4, e⟩
  rotate_left
  · rw [e] at ke
    rcases v_j5 t0 hL5 (Kt_i ke) with ⟨z, -⟩ | ⟨-, L6, hL6, r3, H3, q3, k3⟩
    · exact absurd rfl z
    · exact A2 L6 r3 H3 (fun z => o4 z.2) hL6 q3 k3
  rw [e] at ke
  rcases v_j5 t0 hL5 (Kt_i ke) with ⟨-, L6, hL6, rf, Hf, qf, kf⟩ | ⟨z, -⟩
  rotate_left
  · exact absurd i1_ne z
  obtain ⟨f1, f2⟩ := py_bd0 t0 th0 qf
  rw [f1, f2] at kf
  rcases v_j6 t0 hL6 (Kt_i kf) with ⟨-, L7, hL7, rg, Hg, qg, kg⟩ | ⟨z, -⟩
  rotate_left
  · exact absurd rfl z
  rw [zz_nn0 o1.1, zz_nn0 o2.1, zz_of x3, zz_nn0 o4.1] at qg
  obtain ⟨w1, w2, w3⟩ := pm_bt (md := md) (lf := lf) (by omega) (by omega) (by omega) hO t0 (tm_cg hr (gI_cgE (f0 78 25 (by omega))) (fun a b z _ => f0 a b (by omega))) ((gL_cgE (f0 86 _ (by omega))).trans (hm _ (by omega))) ((gL_cgE (f0 86 _ (by omega))).trans (hm _ (by omega))) ((gL_cgE (f0 89 _ (by omega))).trans (hl _ (by omega))) qg
  rw [w1] at kg
  obtain ⟨e5, e6⟩ := v_j7 w2 hL7 (Kt_i kg)
  rw [e6]
  exact ⟨w2, fun a b z1 z2 z3 z4 => (w3 a b z3 z4).trans (f0 a b z1), Or.inr (Or.inr ⟨⟨o1, o2⟩, ⟨⟨o3.1, by omega⟩, o4⟩, (gI_cgE (w3 78 0 (by omega) (by omega))).trans th0, e5⟩)⟩
/-- what of the two JARs is alike -/
def jA (H : mjH) (J : Nat) : Prop := (0 ≤ (gI H J 2).toInt ∧ (gI H J 2).toInt ≤ 17 ∧ gI H 82 1 = gI H J 2) ∧ (∀ q : Nat, (q : Int) < (gI H J 2).toInt → gL H 86 q = gL H (J + 1) q) ∧ ∀ v, v < 52 → gL H 89 v = gL H (J + 5) v
theorem judge_ok {m1 : Nat} (hI : pI H J Q ru) (hA : jA H J) (q1 : Pn none m1 372 0 [(0, .ref 0), (1, .int x1), (2, .int x2), (3, .int x3), (4, .int x4), (5, .ref 578)] [] H r1 H1) : ∃ w : Int32, r1 = .inl (some (.int w)) ∧ HT H1 ∧ ∀ (m2 : Nat) (r2 : Option Value ⊕ Nat) (H2 : mjH), Pn none m2 321 0 [(0, .ref 78), (1, .int x1), (2, .int x2), (3, .int x3), (4, .int x4)] [] H1 r2 H2 → ∃ v : Int32, r2 = .inl (some (.int v)) ∧ HT H2 ∧ gI H2 78 0 = w ∧ (w = Int32.ofInt 0 → gL H2 578 0 = v.toInt64) ∧ pI H2 J Q ru := by
  have hI0 := hI
  obtain ⟨hT, ⟨hJ, j2, j3⟩, ⟨hQ, g4, g5⟩, hS, ⟨hO, hB⟩, hN, hC, hR⟩ := hI
  obtain ⟨⟨s0, s1, s2⟩, mA, lA⟩ := hA
  obtain ⟨L1, hL1, rc, Hc, qc, kc⟩ := a_q0 hT ⟨rfl, rfl, rfl, rfl, rfl, rfl, trivial⟩ q1
  obtain ⟨tc, fc, cc⟩ := cjd hI0 s1 qc
  -- the wrapper
  have W : HT H1 ∧ (∀ a b, a ≠ 578 → sxEl H1 a b = sxEl Hc a b) ∧ ((¬ (okS H J x1 ∧ okS H J x2) ∧ r1 = .inl (some (.int (Int32.ofInt 1)))) ∨ ((okS H J x1 ∧ okS H J x2) ∧ ¬ okB x3 x4 ∧ r1 = .inl (some (.int (Int32.ofInt 2)))) ∨ ((okS H J x1 ∧ okS H J x2) ∧ okB x3 x4 ∧ r1 = .inl (some (.int (Int32.ofInt 0))) ∧ gL H1 578 0 = (Int32.ofInt (jdV H J ru x1 x2 x3 x4)).toInt64)) := by
    rcases cc with ⟨o, e⟩ | ⟨o, o2, e⟩ | ⟨o, o2, e⟩
    · rcases kc with ⟨cv, e', -⟩ | ⟨E, e', k⟩
      · rw [e] at e'
        cases e'
      rw [e] at e'
      cases e'
      rcases kEx_at (hpc := 17) (by decide +kernel) k with ⟨j, y', e1, h⟩ | ⟨j, y', e1, h⟩
      · rw [show mjAtI 372 17 = some (.astore 6, 2, 0, 0, 0) by decide +kernel] at e1
        cases e1
      · obtain ⟨k1, k2⟩ := a_qH tc trivial h
        rw [k2]
        exact ⟨tc, fun _ _ _ => rfl, Or.inl ⟨o, k1⟩⟩
    · rcases kc with ⟨cv, e', -⟩ | ⟨E, e', k⟩
      · rw [e] at e'
        cases e'
      rw [e] at e'
      cases e'
      rcases kEx_at (hpc := 21) (by decide +kernel) k with ⟨j, y', e1, h⟩ | ⟨j, y', e1, h⟩
      · rw [show mjAtI 372 21 = some (.astore 6, 2, 0, 0, 0) by decide +kernel] at e1
        cases e1
      · obtain ⟨k1, k2⟩ := a_qH1 tc trivial h
        rw [k2]
        exact ⟨tc, fun _ _ _ => rfl, Or.inr (Or.inl ⟨o, o2, k1⟩)⟩
    · rcases kc with ⟨cv, e', k⟩ | ⟨E, e', -⟩
      rotate_left
      · rw [e] at e'
        cases e'
      rw [e] at e'
      cases e'
      obtain ⟨-, k1, k2⟩ := a_q1 tc hL1 k
      rw [k2]
      refine ⟨HT.pL tc kA_578_101_1_true, fun a b z => sxEl_ne (fun q => z q.1), Or.inr (Or.inr ⟨o, o2, k1, ?_⟩)⟩
      exact gL_at tc kA_578_101_1_true (by decide)
  obtain ⟨t1, fw, w3⟩ := W
  have f1 : ∀ a b, a ≠ 578 → a ≠ 30 → ¬ (a = 21 ∨ a = 22 ∨ a = 25 ∨ a = 26) → sxEl H1 a b = sxEl H a b := fun a b z1 z2 z3 => (fw a b z1).trans (fc a b z2 z3)
  have rest : ∀ (m2 : Nat) (r2 : Option Value ⊕ Nat) (H2 : mjH), Pn none m2 321 0 [(0, .ref 78), (1, .int x1), (2, .int x2), (3, .int x3), (4, .int x4)] [] H1 r2 H2 → HT H2 ∧ rfr H1 H2 ∧ rJ (gI H J 2) x1 x2 x3 x4 (jdV H J ru x1 x2 x3 x4) H2 r2 ∧ pI H2 J Q ru := by
    intro m2 r2 H2 q2
    obtain ⟨t2, fr, rj⟩ := rjd (md := fun q => gL H (J + 1) q) (lf := fun v => gL H (J + 5) v) ⟨s0, s1⟩ t1 (tm_cg hR (gI_cgE (f1 78 25 (by omega) (by omega) (by omega))) (fun a b z _ => f1 a b (by omega) (by omega) (by omega))) hO ((gI_cgE (f1 82 1 (by omega) (by omega) (by omega))).trans s2) (fun q hq => (gL_cgE (f1 86 q (by omega) (by omega) (by omega))).trans (mA q hq)) (fun v hv => (gL_cgE (f1 89 v (by omega) (by omega) (by omega))).trans (lA v hv)) q2
    exact ⟨t2, fr, rj, pI_cg hI0 t2 (fun a b f _ => by
      have z := fp_lt f
      rw [fr a b (by omega) (by omega) (by omega) (by omega)]
      exact f1 a b (by omega) (by omega) (by omega))⟩
  rcases w3 with ⟨o, e⟩ | ⟨o, o2, e⟩ | ⟨o, o2, e, ev⟩
  · refine ⟨_, e, t1, fun m2 r2 H2 q2 => ?_⟩
    obtain ⟨t2, fr, rj, pI2⟩ := rest m2 r2 H2 q2
    rcases rj with ⟨-, g, v, hv⟩ | ⟨z, -⟩ | ⟨z, -⟩
    · exact ⟨v, hv, t2, g, fun z => absurd z i1_ne, pI2⟩
    · exact absurd ⟨z.1, z.2⟩ o
    · exact absurd ⟨z.1, z.2⟩ o
  · refine ⟨_, e, t1, fun m2 r2 H2 q2 => ?_⟩
    obtain ⟨t2, fr, rj, pI2⟩ := rest m2 r2 H2 q2
    rcases rj with ⟨z, -⟩ | ⟨-, -, g, v, hv⟩ | ⟨-, z, -⟩
    · exact absurd ⟨o.1, o.2⟩ z
    · exact ⟨v, hv, t2, g, fun z => absurd z i2_ne, pI2⟩
    · exact absurd z o2
  · refine ⟨_, e, t1, fun m2 r2 H2 q2 => ?_⟩
    obtain ⟨t2, fr, rj, pI2⟩ := rest m2 r2 H2 q2
    rcases rj with ⟨z, -⟩ | ⟨-, z, -⟩ | ⟨-, -, g, hv⟩
    · exact absurd ⟨o.1, o.2⟩ z
    · exact absurd o2 z
    · exact ⟨_, hv, t2, g, fun _ => (gL_cgE (fr 578 0 (by omega) (by omega) (by omega) (by omega))).trans ev, pI2⟩
end PCJD

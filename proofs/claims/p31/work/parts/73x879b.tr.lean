/-! PC: the TONGUE in step: the same, the reference -/
section PCTR
variable {m : Nat} {L : mjL} {S : List Value} {H H' H2 : mjH} {r r2 : Option Value ⊕ Nat} {tx : Nat → Nat} {n s s' o e k0 pc0 : Nat} {rs : List (Int × Int)}
def qkO (q : Int × Int) : Prop := (0 ≤ q.1 ∧ q.1 ≤ 10) ∧ (q.1 = 1 → 0 ≤ q.2 ∧ q.2 < 10) ∧ (q.1 = 0 → 0 ≤ q.2 ∧ q.2 < 1000)
/-- the reference's codes -/
def rCo (H : mjH) (rs : List (Int × Int)) : Prop := gI H 78 28 = Int32.ofInt (rs.length : Int) ∧ rs.length ≤ 220 ∧ ∀ (i : Nat) (q : Int × Int), rs[i]? = some q → gI H (339 + i) 0 = Int32.ofInt q.1 ∧ gI H (339 + i) 1 = Int32.ofInt q.2 ∧ qkO q
theorem rCo_cg (h : rCo H rs) (hs : ∀ a b, (a = 78 ∧ b = 28) ∨ (339 ≤ a ∧ a < 559) → sxEl H' a b = sxEl H a b) : rCo H' rs := ⟨(gI_cgE (hs 78 28 (by omega))).trans h.1, h.2.1, fun i q hq => by
  have hi := (List.getElem?_eq_some_iff.mp hq).1
  have hl := h.2.1
  obtain ⟨a, b, c⟩ := h.2.2 i q hq
  exact ⟨(gI_cgE (hs (339 + i) 0 (by omega))).trans a, (gI_cgE (hs (339 + i) 1 (by omega))).trans b, c⟩⟩
def rG (H : mjH) (rs : List (Int × Int)) (tx : Nat → Nat) (n s o : Nat) : Prop := HT H ∧ rAt H tx n s ∧ gI H 78 5 = Int32.ofInt 0 ∧ gI H 78 8 = Int32.ofInt (o : Int) ∧ rCo H rs
/-- with nothing between -/
def rP (H : mjH) (rs : List (Int × Int)) (tx : Nat → Nat) (n s o : Nat) : Prop := HT H ∧ (tcR H tx n ∧ s ≤ n ∧ gI H 78 4 = Int32.ofInt (s : Int) ∧ ¬ ztBl (ztB tx n s)) ∧ gI H 78 5 = Int32.ofInt 0 ∧ gI H 78 8 = Int32.ofInt (o : Int) ∧ rCo H rs
theorem rP_g (h : rP H rs tx n s o) : rG H rs tx n s o := ⟨h.1, rAt_at h.2.1.1 h.2.1.2.2.1 h.2.1.2.1 h.2.1.2.2.2, h.2.2⟩
theorem rG_fr (h : rG H rs tx n s o) (hT : HT H') (hF : rFr H H') (ha : rAt H' tx n s') : rG H' rs tx n s' o := ⟨hT, ha, (gI_cgE (hF 78 5 (by omega))).trans h.2.2.1, (gI_cgE (hF 78 8 (by omega))).trans h.2.2.2.1, rCo_cg h.2.2.2.2 (fun a b z => hF a b (by omega))⟩
theorem rG_p (h : rG H rs tx n s o) (hT : HT H') (hF : rFr H H') (h4 : gI H' 78 4 = Int32.ofInt (s : Int)) (hc : tcR H' tx n) : rP H' rs tx n s o := ⟨hT, ⟨hc, h.2.1.le, h4, h.2.1.nb⟩, (gI_cgE (hF 78 5 (by omega))).trans h.2.2.1, (gI_cgE (hF 78 8 (by omega))).trans h.2.2.2.1, rCo_cg h.2.2.2.2 (fun a b z => hF a b (by omega))⟩
theorem rG_cg (h : rG H rs tx n s o) (hT : HT H') (hs : ∀ a b, (a = 78 ∧ (b = 2 ∨ b = 4 ∨ b = 5 ∨ b = 8 ∨ b = 28)) ∨ a = 79 ∨ (339 ≤ a ∧ a < 559) → sxEl H' a b = sxEl H a b) : rG H' rs tx n s o := by
  obtain ⟨h1, ⟨q1, q2, p, q3, q4⟩, h3, h4, h5⟩ := h
  exact ⟨hT, ⟨q1.cg (fun a b z => hs a b (by omega)), q2, p, (gI_cgE (hs 78 4 (by omega))).trans q3, q4⟩, (gI_cgE (hs 78 5 (by omega))).trans h3, (gI_cgE (hs 78 8 (by omega))).trans h4, rCo_cg h5 (fun a b z => hs a b (by omega))⟩
theorem rG_bl (h : rG H rs tx n s o) (q : Pn none m 201 0 [(0, .ref 78)] [] H r2 H2) (k : Kt m k0 pc0 L S r2 H2 r H') : rP H2 rs tx n s o ∧ Pn none m k0 pc0 L S H2 r H' := by
  obtain ⟨a, b, c, d, e⟩ := h.2.1.bl h.1 q
  rw [a] at k
  exact ⟨rG_p h b c d e, Kt_v k⟩
theorem rP_by (h : rP H rs tx n s o) (q : Pn none m 200 0 [(0, .ref 78), (1, .int (gI H 78 4))] [] H r2 H2) (k : Kt m k0 pc0 L S r2 H2 r H') : Pn none m k0 pc0 L (.int (Int32.ofInt (ztB tx n s)) :: S) H r H' := by
  rw [h.2.1.2.2.1] at q
  have hn := h.2.1.1.1.1
  have hs := h.2.1.2.1
  obtain ⟨a, b⟩ := py_by h.1 h.2.1.1 (by omega) q
  rw [a, b] at k
  exact Kt_i k
theorem rG_isw {ws : List Nat} {a b c d e f : Int} (h : rG H rs tx n s o) (hw : wOk ws) (hr : (0 ≤ c ∧ c < 27) ∧ (0 ≤ d ∧ d < 27) ∧ (0 ≤ e ∧ e < 27) ∧ (0 ≤ f ∧ f < 27)) (h6 : sixF a b c d e f = wdC ws) (h7 : 0 ≤ wdC ws ∧ wdC ws < 387420489) (q : Pn none m 208 0 [(0, .ref 78), (1, .int (Int32.ofInt a)), (2, .int (Int32.ofInt b)), (3, .int (Int32.ofInt c)), (4, .int (Int32.ofInt d)), (5, .int (Int32.ofInt e)), (6, .int (Int32.ofInt f))] [] H r2 H2) (k : Kt m k0 pc0 L S r2 H2 r H') : rP H2 rs tx n s o ∧ ((ztWd tx n s ws ∧ Pn none m k0 pc0 L (.int (Int32.ofInt 1) :: S) H2 r H') ∨ (¬ ztWd tx n s ws ∧ Pn none m k0 pc0 L (.int (Int32.ofInt 0) :: S) H2 r H')) := by
  obtain ⟨d1, d2, d3, d4, d5⟩ := py_isw h.1 h.2.1 h.2.2.1 hw hr h6 h7 q
  refine ⟨rG_p h d2 d3 d4 d5, ?_⟩
  rcases d1 with ⟨g, d1⟩ | ⟨g, d1⟩
  · rw [d1] at k
    exact Or.inl ⟨g, Kt_i k⟩
  · rw [d1] at k
    exact Or.inr ⟨g, Kt_i k⟩
theorem rG_tk {ws : List Nat} {a b c d e f : Int} (h : rG H rs tx n s o) (hw : wOk ws) (hr : (0 ≤ c ∧ c < 27) ∧ (0 ≤ d ∧ d < 27) ∧ (0 ≤ e ∧ e < 27) ∧ (0 ≤ f ∧ f < 27)) (h6 : sixF a b c d e f = wdC ws) (h7 : 0 ≤ wdC ws ∧ wdC ws < 387420489) (q : Pn none m 210 0 [(0, .ref 78), (1, .int (Int32.ofInt a)), (2, .int (Int32.ofInt b)), (3, .int (Int32.ofInt c)), (4, .int (Int32.ofInt d)), (5, .int (Int32.ofInt e)), (6, .int (Int32.ofInt f))] [] H r2 H2) (k : Kt m k0 pc0 L S r2 H2 r H') : (ztWd tx n s ws ∧ ∃ s', ztRun ztBl tx n (s + ws.length) s' ∧ rG H2 rs tx n s' o ∧ Pn none m k0 pc0 L (.int (Int32.ofInt 1) :: S) H2 r H') ∨ (¬ ztWd tx n s ws ∧ rG H2 rs tx n s o ∧ Pn none m k0 pc0 L (.int (Int32.ofInt 0) :: S) H2 r H') := by
  obtain ⟨d1, d2, d3⟩ := py_takes h.1 h.2.1 h.2.2.1 hw hr h6 h7 q
  rcases d3 with ⟨g, e1, s', e2, e3⟩ | ⟨g, e1, e2⟩
  · rw [e1] at k
    exact Or.inl ⟨g, s', e2, rG_fr h d1 d2 e3, Kt_i k⟩
  · rw [e1] at k
    exact Or.inr ⟨g, rG_fr h d1 d2 e2, Kt_i k⟩
theorem rG_tsg {c : Int} (h : rG H rs tx n s o) (hc : 0 ≤ c ∧ c < 128) (q : Pn none m 212 0 [(0, .ref 78), (1, .int (Int32.ofInt c))] [] H r2 H2) (k : Kt m k0 pc0 L S r2 H2 r H') : (ztB tx n s = c ∧ ∃ s', ztRun ztBl tx n (s + 1) s' ∧ rG H2 rs tx n s' o ∧ Pn none m k0 pc0 L (.int (Int32.ofInt 1) :: S) H2 r H') ∨ (¬ ztB tx n s = c ∧ rG H2 rs tx n s o ∧ Pn none m k0 pc0 L (.int (Int32.ofInt 0) :: S) H2 r H') := by
  obtain ⟨d1, d2, d3⟩ := py_tsign h.1 h.2.1 h.2.2.1 hc q
  rcases d3 with ⟨g, e1, s', e2, e3⟩ | ⟨g, e1, e2⟩
  · rw [e1] at k
    exact Or.inl ⟨g, s', e2, rG_fr h d1 d2 e3, Kt_i k⟩
  · rw [e1] at k
    exact Or.inr ⟨g, rG_fr h d1 d2 e2, Kt_i k⟩
theorem rG_sg {c : Int} (h : rG H rs tx n s o) (hc : 0 ≤ c ∧ c < 128) (q : Pn none m 211 0 [(0, .ref 78), (1, .int (Int32.ofInt c))] [] H r2 H2) (k : Kt m k0 pc0 L S r2 H2 r H') : (ztB tx n s = c ∧ ∃ s', ztRun ztBl tx n (s + 1) s' ∧ rG H2 rs tx n s' o ∧ Pn none m k0 pc0 L S H2 r H') ∨ (¬ ztB tx n s = c ∧ HT H2 ∧ rBad H2 ∧ Pn none m k0 pc0 L S H2 r H') := by
  obtain ⟨d1, d2, d3⟩ := py_sign h.1 h.2.1 h.2.2.1 hc q
  rw [d1] at k
  rcases d3 with ⟨g, e1, s', e2, e3⟩ | ⟨g, e1⟩
  · exact Or.inl ⟨g, s', e2, rG_fr h d2 e1 e3, Kt_v k⟩
  · exact Or.inr ⟨g, d2, e1, Kt_v k⟩
theorem rP_op (h : rP H rs tx n s o) (ho : o ≤ 6) (q : Pn none m 213 0 [(0, .ref 78)] [] H r2 H2) (k : Kt m k0 pc0 L S r2 H2 r H') : (o < 6 ∧ rP H2 rs tx n s (o + 1) ∧ Pn none m k0 pc0 L (.int (Int32.ofInt 1) :: S) H2 r H') ∨ (6 ≤ o ∧ HT H2 ∧ rBad H2 ∧ Pn none m k0 pc0 L (.int (Int32.ofInt 0) :: S) H2 r H') := by
  have hg := rP_g h
  obtain ⟨y1, y2⟩ := py_op h.1 hg.2.1 h.2.2.1 h.2.2.2.1 ho q
  rcases y2 with ⟨g, f1, f2, f3⟩ | ⟨g, f1, f2⟩
  · rw [f1] at k
    obtain ⟨h1, ⟨h2, h3, h4, h5⟩, h6, h7, h8⟩ := h
    exact Or.inl ⟨g, ⟨y1, ⟨h2.cg (fun a b z => f2 a b (by omega)), h3, (gI_cgE (f2 78 4 (by omega))).trans h4, h5⟩, (gI_cgE (f2 78 5 (by omega))).trans h6, f3, rCo_cg h8 (fun a b z => f2 a b (by omega))⟩, Kt_i k⟩
  · rw [f1] at k
    exact Or.inr ⟨g, y1, f2, Kt_i k⟩
theorem rP_sk {ws : List Nat} (h : rP H rs tx n s o) (hw : ztWd tx n s ws) (q : Pn none m 209 0 [(0, .ref 78)] [] H r2 H2) (k : Kt m k0 pc0 L S r2 H2 r H') : ∃ s', ztRun ztBl tx n (s + ws.length) s' ∧ rG H2 rs tx n s' o ∧ Pn none m k0 pc0 L S H2 r H' := by
  obtain ⟨e, t1, t2, t3, t4, t5, t6⟩ := py_skip h.1 h.2.1.1 h.2.1.2.2.1 h.2.1.2.1 q
  rw [t3] at k
  rw [ztRun_un t1 hw.1] at t6 t2
  obtain ⟨s2, z1, z2⟩ := rAt_of (tx := tx) (n := n) (t5.tk h.2.1.1) t6 t2
  exact ⟨s2, z1, rG_fr (rP_g h) t4 t5 z2, Kt_v k⟩
theorem rP_up (h : rP H rs tx n s o) (hs : s < n) : ∃ s', ztRun ztBl tx n (s + 1) s' ∧ rG (pV H 78 4 (.int (gI H 78 4 + Int32.ofInt 1))) rs tx n s' o := by
  have hF : rFr H (pV H 78 4 (.int (gI H 78 4 + Int32.ofInt 1))) := fun a b z => sxEl_ne z
  have hT : HT (pV H 78 4 (.int (gI H 78 4 + Int32.ofInt 1))) := HT.pFI h.1 kF_78_4_9_false
  have h4 : gI (pV H 78 4 (.int (gI H 78 4 + Int32.ofInt 1))) 78 4 = Int32.ofInt ((s + 1 : Nat) : Int) := by
    rw [gI_fat h.1 kF_78_4_9_false, h.2.1.2.2.1, zz_add]
    exact congrArg Int32.ofInt (by omega)
  obtain ⟨s2, z1, z2⟩ := rAt_of (tx := tx) (n := n) (hF.tk h.2.1.1) h4 (by omega)
  exact ⟨s2, z1, rG_fr (rP_g h) hT hF z2⟩
theorem rG_dn (h : rG H rs tx n s (o + 1)) : rG (pV H 78 8 (.int (gI H 78 8 - Int32.ofInt 1))) rs tx n s o := by
  have hF : ∀ a b, ¬ (a = 78 ∧ b = 8) → sxEl (pV H 78 8 (.int (gI H 78 8 - Int32.ofInt 1))) a b = sxEl H a b := fun a b z => sxEl_ne z
  obtain ⟨h1, ⟨q1, q2, p, q3, q4⟩, h3, h4, h5⟩ := h
  refine ⟨HT.pFI h1 kF_78_8_9_false, ⟨q1.cg (fun a b z => hF a b (by omega)), q2, p, (gI_cgE (hF 78 4 (by omega))).trans q3, q4⟩, (gI_cgE (hF 78 5 (by omega))).trans h3, ?_, rCo_cg h5 (fun a b z => hF a b (by omega))⟩
  rw [gI_fat h1 kF_78_8_9_false, h4, zz_sub]
  exact congrArg Int32.ofInt (by omega)
theorem kC2 {i : Nat} (h : i < 220) : kA (339 + i) 100 2 false = true := List.all_eq_true.mp (show (List.range 220).all (fun j => kA (339 + j) 100 2 false) = true by decide +kernel) i (List.mem_range.mpr h)
theorem rG_say {w v : Int} (h : rG H rs tx n s o) (hq : qkO (w, v)) (q : Pn none m 227 0 [(0, .ref 78), (1, .int (Int32.ofInt w)), (2, .int (Int32.ofInt v))] [] H r2 H2) (k : Kt m k0 pc0 L S r2 H2 r H') : rG H2 (rs ++ [(w, v)]) tx n s o ∧ Pn none m k0 pc0 L S H2 r H' := by
  obtain ⟨h1, h2, h3, h4, h5, h6, h7⟩ := h
  have hb := h_d0 h1 ⟨rfl, rfl, rfl, trivial⟩ q
  rw [h5, zz_cn, zz_add] at hb
  rcases hb with ⟨-, ⟨-, hl⟩, e1, e2⟩ | ⟨g, -⟩
  rotate_left
  · exact absurd h3 g
  have kc := kC2 hl
  have t1 := HT.pI (x := Int32.ofInt w) (j := 0) h1 kc
  have t2 := HT.pI (x := Int32.ofInt v) (j := 1) t1 kc
  have t3 := HT.pFI (x := Int32.ofInt ((rs.length : Int) + 1)) t2 kF_78_28_9_false
  have hF : ∀ a b, ¬ (a = 78 ∧ b = 28) → a ≠ 339 + rs.length → sxEl H2 a b = sxEl H a b := fun a b z1 z2 => by rw [e2, sxEl_ne z1, sxEl_ne (fun z => z2 z.1), sxEl_ne (fun z => z2 z.1)]
  rw [e1] at k
  obtain ⟨q1, q2, p, q3, q4⟩ := h2
  refine ⟨⟨by rw [e2]; exact t3, ⟨q1.cg (fun a b z => hF a b (by omega) (by omega)), q2, p, (gI_cgE (hF 78 4 (by omega) (by omega))).trans q3, q4⟩, (gI_cgE (hF 78 5 (by omega) (by omega))).trans h3, (gI_cgE (hF 78 8 (by omega) (by omega))).trans h4, ?_, ?_, ?_⟩, Kt_v k⟩
  · rw [e2, gI_fat t2 kF_78_28_9_false, List.length_append, List.length_singleton]
    exact congrArg Int32.ofInt (by omega)
  · rw [List.length_append, List.length_singleton]
    omega
  · intro i c hi
    rcases ap_at hi with hi | ⟨hi, hc⟩
    · have hl2 := (List.getElem?_eq_some_iff.mp hi).1
      obtain ⟨a, b, c'⟩ := h7 i c hi
      exact ⟨(gI_cgE (hF (339 + i) 0 (by omega) (by omega))).trans a, (gI_cgE (hF (339 + i) 1 (by omega) (by omega))).trans b, c'⟩
    · rw [hi, hc, e2]
      refine ⟨?_, ?_, hq⟩
      · rw [gI_ne (by omega), gI_ne (by omega)]
        exact gI_at h1 kc (by decide)
      · rw [gI_ne (by omega)]
        exact gI_at t1 kc (by decide)
theorem rG_wr {y : Int} {p : Int32} (h : rG H rs tx n s o) (hy : 0 < y ∧ y < 100) (q : Pn none m 202 0 [(0, .ref 78), (1, .int (Int32.ofInt y)), (2, .int p)] [] H r2 H2) (k : Kt m k0 pc0 L S r2 H2 r H') : HT H2 ∧ rBad H2 ∧ Pn none m k0 pc0 L S H2 r H' := by
  obtain ⟨w1, w2, w3⟩ := py_wrong h.1 hy q
  rw [w1] at k
  exact ⟨w2, w3, Kt_v k⟩
theorem rP_dg (h : rP H rs tx n s o) (q : Pn none m 203 0 [(0, .int (Int32.ofInt (ztB tx n s)))] [] H r2 H2) (k : Kt m k0 pc0 L S r2 H2 r H') : (ztDg (ztB tx n s) ∧ Pn none m k0 pc0 L (.int (Int32.ofInt 1) :: S) H r H') ∨ (¬ ztDg (ztB tx n s) ∧ Pn none m k0 pc0 L (.int (Int32.ofInt 0) :: S) H r H') := by
  obtain ⟨d, e⟩ := py_dg (ztB_rg h.2.1.1 s) h.1 q
  rw [e] at k
  rcases d with ⟨g, d⟩ | ⟨g, d⟩
  · rw [d] at k
    exact Or.inl ⟨g, Kt_i k⟩
  · rw [d] at k
    exact Or.inr ⟨g, Kt_i k⟩
theorem rG_nb (h : rG H rs tx n s o) (q : Pn none m 205 0 [(0, .ref 78), (1, .int (Int32.ofInt 0)), (2, .int (Int32.ofInt 999))] [] H r2 H2) (k : Kt m k0 pc0 L S r2 H2 r H') : (∃ e s', ztRun ztDg tx n s e ∧ s < e ∧ (0 ≤ nvF tx s (e - s) ∧ nvF tx s (e - s) ≤ 999) ∧ ztRun ztBl tx n e s' ∧ rG H2 rs tx n s' o ∧ Pn none m k0 pc0 L (.int (Int32.ofInt (nvF tx s (e - s))) :: S) H2 r H') ∨ ((∀ e, ztRun ztDg tx n s e → ¬ (s < e ∧ 0 ≤ nvF tx s (e - s) ∧ nvF tx s (e - s) ≤ 999)) ∧ HT H2 ∧ rBad H2 ∧ ∃ z, Pn none m k0 pc0 L (.int z :: S) H2 r H') := by
  obtain ⟨⟨z, d⟩, e1, e2⟩ := py_number h.1 h.2.1 h.2.2.1 (by decide) q
  rcases e2 with ⟨e, s', f1, f2, f3, f4, f5, f6, f7, f8⟩ | ⟨f1, f2⟩
  · rw [f4] at k
    exact Or.inl ⟨e, s', f1, f2, f3, f7, rG_fr h e1 f5 f8, Kt_i k⟩
  · rw [d] at k
    exact Or.inr ⟨f1, e1, f2, z, Kt_i k⟩
end PCTR

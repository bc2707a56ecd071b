/-! PC: texts: words and signs, both sides -/
section PCTZ
variable {m : Nat} {L : mjL} {H H' H0 H1 : mjH} {r : Option Value ⊕ Nat} {tx : Nat → Nat} {n s : Nat}
theorem ztBl_ex : ∀ (d p : Nat), p + d = n → ∃ s, ztRun ztBl tx n p s ∧ s ≤ n
  | 0, p, h => ⟨p, ztRun_rf (by rw [ztB_ge (by omega)]; exact fun z => absurd (show (-1 : Int) = 32 from z) (by decide)), by omega⟩
  | d + 1, p, h => by
    by_cases g : ztBl (ztB tx n p)
    · obtain ⟨s, ⟨h1, h2, h3⟩, h4⟩ := ztBl_ex d (p + 1) (by omega)
      refine ⟨s, ⟨by omega, fun i k1 k2 => ?_, h3⟩, h4⟩
      by_cases q : i = p
      · rw [q]
        exact g
      · exact h2 i (by omega) k2
    · exact ⟨p, ztRun_rf g, by omega⟩
/-- the reference stands ahead of s, with nothing but blanks between -/
def rAt (H : mjH) (tx : Nat → Nat) (n s : Nat) : Prop := tcR H tx n ∧ s ≤ n ∧ ∃ p : Nat, gI H 78 4 = Int32.ofInt (p : Int) ∧ ztRun ztBl tx n p s
theorem rAt.le (h : rAt H tx n s) : s ≤ n := h.2.1
theorem rAt_of {e : Nat} (hc : tcR H tx n) (h4 : gI H 78 4 = Int32.ofInt (e : Int)) (he : e ≤ n) : ∃ s, ztRun ztBl tx n e s ∧ rAt H tx n s := by
  obtain ⟨s, h1, h2⟩ := ztBl_ex (tx := tx) (n := n) (n - e) e (by omega)
  exact ⟨s, h1, hc, h2, e, h4, h1⟩
theorem rAt.bl (hT : HT H) (ha : rAt H tx n s) (h : Pn none m 201 0 [(0, .ref 78)] [] H r H') : r = .inl none ∧ HT H' ∧ rFr H H' ∧ gI H' 78 4 = Int32.ofInt (s : Int) ∧ tcR H' tx n := by
  obtain ⟨hc, hs, p, h4, hr⟩ := ha
  obtain ⟨s', a1, a2, a3, a4, a5, a6⟩ := py_blanks hT hc h4 (Nat.le_trans hr.1 hs) h
  have e := ztRun_un hr a1
  rw [e]
  exact ⟨a3, a4, a5, a6, a5.tk hc⟩
theorem rAt_at (hc : tcR H tx n) (h4 : gI H 78 4 = Int32.ofInt (s : Int)) (hs : s ≤ n) (hb : ¬ ztBl (ztB tx n s)) : rAt H tx n s := ⟨hc, hs, s, h4, ztRun_rf hb⟩
theorem rAt.nb (h : rAt H tx n s) : ¬ ztBl (ztB tx n s) := by
  obtain ⟨-, -, p, -, hr⟩ := h
  exact hr.2.2
def sixF (a b c d e f : Int) : Int := (fun v => if f = 0 then v else 27 * v + f) ((fun v => if e = 0 then v else 27 * v + e) ((fun v => if d = 0 then v else 27 * v + d) ((fun v => if c = 0 then v else 27 * v + c) (27 * a + b))))
theorem py_six {a b c d e f : Int} (hT : HT H) (hr : (0 ≤ c ∧ c < 27) ∧ (0 ≤ d ∧ d < 27) ∧ (0 ≤ e ∧ e < 27) ∧ (0 ≤ f ∧ f < 27)) (h : Pn none m 207 0 [(0, .int (Int32.ofInt a)), (1, .int (Int32.ofInt b)), (2, .int (Int32.ofInt c)), (3, .int (Int32.ofInt d)), (4, .int (Int32.ofInt e)), (5, .int (Int32.ofInt f))] [] H r H') : r = .inl (some (.int (Int32.ofInt (sixF a b c d e f)))) ∧ H' = H := by
  obtain ⟨⟨c1, c2⟩, ⟨d1, d2⟩, ⟨e1, e2⟩, f1, f2⟩ := hr
  have hb := y_six hT ⟨rfl, rfl, rfl, rfl, rfl, rfl, trivial⟩ h
  rw [zz_eq (a := c), zz_eq (a := d), zz_eq (a := e), zz_eq (a := f)] at hb
  simp only [zz_mul, zz_add] at hb
  unfold sixF
  by_cases g1 : c = 0
  · by_cases g2 : d = 0
    · by_cases g3 : e = 0
      · by_cases g4 : f = 0
        · simp only [g1, g2, g3, g4, not_true_eq_false, not_false_eq_true, Classical.not_not, false_and, true_and, false_or, or_false, if_true, if_false] at hb ⊢
          exact hb
        · simp only [g1, g2, g3, g4, not_true_eq_false, not_false_eq_true, Classical.not_not, false_and, true_and, false_or, or_false, if_true, if_false] at hb ⊢
          exact hb
      · by_cases g4 : f = 0
        · simp only [g1, g2, g3, g4, not_true_eq_false, not_false_eq_true, Classical.not_not, false_and, true_and, false_or, or_false, if_true, if_false] at hb ⊢
          exact hb
        · simp only [g1, g2, g3, g4, not_true_eq_false, not_false_eq_true, Classical.not_not, false_and, true_and, false_or, or_false, if_true, if_false] at hb ⊢
          exact hb
    · by_cases g3 : e = 0
      · by_cases g4 : f = 0
        · simp only [g1, g2, g3, g4, not_true_eq_false, not_false_eq_true, Classical.not_not, false_and, true_and, false_or, or_false, if_true, if_false] at hb ⊢
          exact hb
        · simp only [g1, g2, g3, g4, not_true_eq_false, not_false_eq_true, Classical.not_not, false_and, true_and, false_or, or_false, if_true, if_false] at hb ⊢
          exact hb
      · by_cases g4 : f = 0
        · simp only [g1, g2, g3, g4, not_true_eq_false, not_false_eq_true, Classical.not_not, false_and, true_and, false_or, or_false, if_true, if_false] at hb ⊢
          exact hb
        · simp only [g1, g2, g3, g4, not_true_eq_false, not_false_eq_true, Classical.not_not, false_and, true_and, false_or, or_false, if_true, if_false] at hb ⊢
          exact hb
  · by_cases g2 : d = 0
    · by_cases g3 : e = 0
      · by_cases g4 : f = 0
        · simp only [g1, g2, g3, g4, not_true_eq_false, not_false_eq_true, Classical.not_not, false_and, true_and, false_or, or_false, if_true, if_false] at hb ⊢
          exact hb
        · simp only [g1, g2, g3, g4, not_true_eq_false, not_false_eq_true, Classical.not_not, false_and, true_and, false_or, or_false, if_true, if_false] at hb ⊢
          exact hb
      · by_cases g4 : f = 0
        · simp only [g1, g2, g3, g4, not_true_eq_false, not_false_eq_true, Classical.not_not, false_and, true_and, false_or, or_false, if_true, if_false] at hb ⊢
          exact hb
        · simp only [g1, g2, g3, g4, not_true_eq_false, not_false_eq_true, Classical.not_not, false_and, true_and, false_or, or_false, if_true, if_false] at hb ⊢
          exact hb
    · by_cases g3 : e = 0
      · by_cases g4 : f = 0
        · simp only [g1, g2, g3, g4, not_true_eq_false, not_false_eq_true, Classical.not_not, false_and, true_and, false_or, or_false, if_true, if_false] at hb ⊢
          exact hb
        · simp only [g1, g2, g3, g4, not_true_eq_false, not_false_eq_true, Classical.not_not, false_and, true_and, false_or, or_false, if_true, if_false] at hb ⊢
          exact hb
      · by_cases g4 : f = 0
        · simp only [g1, g2, g3, g4, not_true_eq_false, not_false_eq_true, Classical.not_not, false_and, true_and, false_or, or_false, if_true, if_false] at hb ⊢
          exact hb
        · simp only [g1, g2, g3, g4, not_true_eq_false, not_false_eq_true, Classical.not_not, false_and, true_and, false_or, or_false, if_true, if_false] at hb ⊢
          exact hb
/-- a run of letters from here -/
theorem ztSm_ex (hs : s ≤ n) : ∃ e, ztRun ztSm tx n s e := by
  have key : ∀ (d p : Nat), p + d = n → ∃ e, ztRun ztSm tx n p e := by
    intro d
    induction d with
    | zero => exact fun p h => ⟨p, ztRun_rf (by rw [ztB_ge (by omega)]; exact fun z => absurd z.1 (by decide))⟩
    | succ d ih =>
      intro p h
      by_cases g : ztSm (ztB tx n p)
      · obtain ⟨e, h1, h2, h3⟩ := ih (p + 1) (by omega)
        refine ⟨e, by omega, fun i k1 k2 => ?_, h3⟩
        by_cases q : i = p
        · rw [q]
          exact g
        · exact h2 i (by omega) k2
      · exact ⟨p, ztRun_rf g⟩
  exact key (n - s) s (by omega)
/-- words of ours: two to six letters -/
def wOk (ws : List Nat) : Prop := 0 < ws.length ∧ ws.length ≤ 6 ∧ ∀ x, x ∈ ws → ztSm (x : Int)
theorem py_word (hT : HT H) (ha : rAt H tx n s) (h : Pn none m 206 0 [(0, .ref 78)] [] H r H') : ∃ e, ztRun ztSm tx n s e ∧ r = .inl (some (.int (Int32.ofInt (if 6 < e - s then -1 else wvF tx s (e - s))))) ∧ HT H' ∧ rFr H H' ∧ gI H' 78 4 = Int32.ofInt (s : Int) ∧ tcR H' tx n := by
  obtain ⟨e, he⟩ := ztSm_ex (tx := tx) ha.le
  obtain ⟨L', hL, r2, H2, q, k⟩ := y_wh0 hT ⟨rfl, trivial⟩ h
  obtain ⟨a1, a2, a3, a4, a5⟩ := rAt.bl hT ha q
  subst a1
  obtain ⟨L2, hL2, h2⟩ := y_wh1 a2 hL (pn_ret k)
  obtain ⟨b1, b2⟩ := py_whL a2 a5 a4 ha.le he m 0 L2 (by have := he.1; omega) hL2 h2
  rw [b2]
  exact ⟨e, he, b1, a2, a3, a4, a5⟩
theorem py_isw {ws : List Nat} {a b c d e f : Int} (hT : HT H) (ha : rAt H tx n s) (h5 : gI H 78 5 = Int32.ofInt 0) (hw : wOk ws) (hr : (0 ≤ c ∧ c < 27) ∧ (0 ≤ d ∧ d < 27) ∧ (0 ≤ e ∧ e < 27) ∧ (0 ≤ f ∧ f < 27)) (h6 : sixF a b c d e f = wdC ws) (h7 : 0 ≤ wdC ws ∧ wdC ws < 387420489) (h : Pn none m 208 0 [(0, .ref 78), (1, .int (Int32.ofInt a)), (2, .int (Int32.ofInt b)), (3, .int (Int32.ofInt c)), (4, .int (Int32.ofInt d)), (5, .int (Int32.ofInt e)), (6, .int (Int32.ofInt f))] [] H r H') :
    ((ztWd tx n s ws ∧ r = .inl (some (.int (Int32.ofInt 1)))) ∨ (¬ ztWd tx n s ws ∧ r = .inl (some (.int (Int32.ofInt 0))))) ∧ HT H' ∧ rFr H H' ∧ gI H' 78 4 = Int32.ofInt (s : Int) ∧ tcR H' tx n := by
  have hb := y_iw0 hT ⟨rfl, rfl, rfl, rfl, rfl, rfl, rfl, trivial⟩ h
  rw [h5] at hb
  rcases hb with ⟨z, -⟩ | ⟨-, L', hL, r2, H2, q, k⟩
  · exact absurd rfl z
  obtain ⟨en, he, a1, a2, a3, a4, a5⟩ := py_word hT ha q
  subst a1
  obtain ⟨L2, hL2, r3, H3, q3, k3⟩ := y_iw1 a2 hL (pn_ret k)
  obtain ⟨b1, b2⟩ := py_six a2 hr q3
  subst b1
  rw [b2] at k3
  have hb := y_iw2 a2 hL2 (pn_ret k3)
  have hen := ztRun_le (P := ztSm) (fun z => absurd z.1 (by decide)) he ha.le
  have hlet : ∀ j, j < en - s → ztSm (tx (s + j) : Int) := fun j hj => by
    have := he.2.1 (s + j) (by omega) (by omega)
    rw [ztB_lt (by omega)] at this
    exact this
  have hse := he.1
  have key : (if 6 < en - s then (-1 : Int) else wvF tx s (en - s)) = wdC ws ↔ ztWd tx n s ws := by
    constructor
    · intro z
      by_cases g : 6 < en - s
      · rw [if_pos g] at z
        omega
      · rw [if_neg g] at z
        obtain ⟨k1, k2⟩ := wv_eq (en - s) ws (by omega) hlet hw.2.2 z
        refine ⟨?_, k2⟩
        rw [← k1, show s + (en - s) = en by omega]
        exact he
    · intro z
      have e0 := ztRun_un he z.1
      have hl := hw.2.1
      rw [if_neg (by omega), show en - s = ws.length by omega]
      exact wv_of ws z.2
  have hrg : -1 ≤ (if 6 < en - s then (-1 : Int) else wvF tx s (en - s)) ∧ (if 6 < en - s then (-1 : Int) else wvF tx s (en - s)) < 387420489 := by
    by_cases g : 6 < en - s
    · rw [if_pos g]
      decide
    · rw [if_neg g]
      obtain ⟨k1, k2, -⟩ := wvF_rg (tx := tx) (s := s) (c := en - s) (by omega) hlet
      have : (27 : Int) ^ (en - s) ≤ 27 ^ 6 := by
        have hle : en - s ≤ 6 := by omega
        generalize en - s = x at hle
        match x, hle with
        | 0, _ => decide
        | 1, _ => decide
        | 2, _ => decide
        | 3, _ => decide
        | 4, _ => decide
        | 5, _ => decide
        | 6, _ => decide
        | y + 7, h => exact absurd h (by omega)
      have e27 : (27 : Int) ^ 6 = 387420489 := by decide
      omega
  rw [h6, zz_eq, key] at hb
  rcases hb with ⟨z, e1, e2⟩ | ⟨z, e1, e2⟩
  · rw [e2]
    exact ⟨Or.inr ⟨z, e1⟩, a2, a3, a4, a5⟩
  · rw [e2]
    exact ⟨Or.inl ⟨Classical.not_not.mp z, e1⟩, a2, a3, a4, a5⟩
/-- the class: is it this word? -/
theorem px_isL {o : Nat} {ws : List Nat} (hT : HT H) (hc : tcC H tx n) (ho : mjTxo o = some ws) (hl : ws.length ≤ 6) (h2 : gI H 1 2 = Int32.ofInt (n : Int)) (h4 : gI H 1 4 = Int32.ofInt (s : Int)) (hs : s + ws.length ≤ n) (hlet : ∀ i, i < ws.length → ztSm (tx (s + i) : Int)) (hw : ∀ x, x ∈ ws → ztSm (x : Int)) : ∀ (m i : Nat) (L : mjL), i ≤ ws.length → (∀ (j d : Nat), j < i → ws[j]? = some d → tx (s + j) = d) → LG L [(0, .ref 1), (1, .ref o), (2, .int (Int32.ofInt (i : Int)))] → Pn none m 85 28 L [] H r H' →
    (((∀ (j d : Nat), ws[j]? = some d → tx (s + j) = d) ∧ r = .inl (some (.int (Int32.ofInt 1)))) ∨ (¬ (∀ (j d : Nat), ws[j]? = some d → tx (s + j) = d) ∧ r = .inl (some (.int (Int32.ofInt 0))))) ∧ H' = H
  | 0, _, _, _, _, _, h => Pn0 h
  | m + 1, i, L, hi, hall, hL, h => by
    have hn := hc.1
    have hb := x_iswL hT ho hL h
    rw [← Int32.ofInt_eq_ofNat, zz_le, h2, h4, zz_add, zz_le] at hb
    have hz : ((s : Int) + (i : Int)) = ((s + i : Nat) : Int) := rfl
    rw [hz, zz_cn (n := s + i), zz_cn (n := i)] at hb
    by_cases g : ws.length ≤ i
    · rcases hb with ⟨-, e1, e2⟩ | ⟨c, -⟩
      · refine ⟨Or.inl ⟨fun j d hj => hall j d ?_ hj, e1⟩, e2⟩
        have := (List.getElem?_eq_some_iff.mp hj).1
        omega
      · exact absurd (show (ws.length : Int) ≤ (i : Int) by omega) c
    · have hlt : i < ws.length := by omega
      obtain ⟨t1, t2⟩ := hc.2 (s + i) (by omega)
      have e9 : gI H 2 (s + i) &&& Int32.ofInt 255 = Int32.ofInt (tx (s + i) : Int) := by rw [t2]; exact sb_255 _ t1
      rcases hb with ⟨c, -⟩ | ⟨-, ⟨c, -⟩ | ⟨-, -, c, ⟨-, hc2⟩, hb⟩⟩
      · exact absurd (show ws.length ≤ i by omega) g
      · exact absurd c (by omega)
      · have hcs := hw c (List.mem_of_getElem? hc2)
        have hc1 := hcs.1
        have hc3 := hcs.2
        rw [e9, ← Int32.ofInt_eq_ofNat, zz_eq] at hb
        have hs1 : Int32.ofInt (i : Int) + Int32.ofInt 1 = Int32.ofInt ((i + 1 : Nat) : Int) := zz_add _ _
        rw [hs1] at hb
        rcases hb with ⟨e, L', hL', h'⟩ | ⟨e, e1, e2⟩
        · refine px_isL hT hc ho hl h2 h4 hs hlet hw m (i + 1) L' hlt (fun j d hj hd => ?_) hL' h'
          by_cases q : j = i
          · rw [q] at hd ⊢
            rw [hc2] at hd
            cases hd
            omega
          · exact hall j d (by omega) hd
        · refine ⟨Or.inr ⟨fun z => e ?_, e1⟩, e2⟩
          rw [z i c hc2]
theorem px_isw {o : Nat} {ws : List Nat} (hT : HT H) (hc : tcC H tx n) (ha : cAt H tx n s) (ho : mjTxo o = some ws) (hw : wOk ws) (h : Pn none m 85 0 [(0, .ref 1), (1, .ref o)] [] H r H') : ((ztWd tx n s ws ∧ r = .inl (some (.int (Int32.ofInt 1)))) ∨ (¬ ztWd tx n s ws ∧ r = .inl (some (.int (Int32.ofInt 0))))) ∧ H' = H := by
  obtain ⟨a1, a2, a3, a4, k, v, e, a5, a6, a7, a8, a9⟩ := ha
  obtain ⟨w1, w2, w3⟩ := hw
  have hn := hc.1
  have hk := ztok_k a5
  have hb := x_isw0 hT ho ⟨rfl, rfl, trivial⟩ h
  rw [a6, zz_eq, a8, a4, zz_sub, ← Int32.ofInt_eq_ofNat, zz_eq] at hb
  -- no letters stand there
  have none0 : ¬ ztSm (ztB tx n s) → ¬ ztWd tx n s ws := fun g z => by
    have := ztRun_un (ztRun_rf g) z.1
    omega
  rcases hb with ⟨c, e1, e2⟩ | ⟨c, ⟨c2, L', hL', h'⟩ | ⟨c2, e1, e2⟩⟩
  · refine ⟨Or.inr ⟨none0 (fun z => c ?_), e1⟩, e2⟩
    rcases a5 with ⟨q, -⟩ | ⟨-, -, q, -⟩ | ⟨q1, q2, -⟩ | ⟨q1, q2, -⟩
    · rw [ztB_ge q] at z
      exact absurd z.1 (by decide)
    · exact q
    · rw [ztB_lt q1] at z
      have := z.1
      have := q2.2
      omega
    · rw [ztB_lt q1] at z
      exact absurd z q2
  · have c := Classical.not_not.mp c
    have hrun : s < n ∧ ztRun ztSm tx n s e := by
      rcases a5 with ⟨-, q, -⟩ | ⟨q0, -, -, -, q⟩ | ⟨-, -, q, -⟩ | ⟨-, -, -, q, -⟩
      · omega
      · exact ⟨q0, q⟩
      · omega
      · omega
    have he : e = s + ws.length := by
      have := hrun.2.1
      omega
    obtain ⟨d1, d2⟩ := px_isL hT hc ho w2 a1 a4 (by omega) (fun i hi => by
      have := hrun.2.2.1 (s + i) (by omega) (by omega)
      rw [ztB_lt (by omega)] at this
      exact this) w3 m 0 L' (Nat.zero_le _) (fun j d hj => absurd hj (Nat.not_lt_zero j)) hL' h'
    refine ⟨?_, d2⟩
    rcases d1 with ⟨z, e1⟩ | ⟨z, e1⟩
    · exact Or.inl ⟨⟨by rw [← he]; exact hrun.2, z⟩, e1⟩
    · exact Or.inr ⟨fun q => z q.2, e1⟩
  · refine ⟨Or.inr ⟨fun z => c2 ?_, e1⟩, e2⟩
    have c := Classical.not_not.mp c
    have hrun : ztRun ztSm tx n s e := by
      rcases a5 with ⟨-, q, -⟩ | ⟨-, -, -, -, q⟩ | ⟨-, -, q, -⟩ | ⟨-, -, -, q, -⟩
      · omega
      · exact q
      · omega
      · omega
    have := ztRun_un hrun z.1
    omega
end PCTZ

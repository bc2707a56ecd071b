/-! PC: the reference's year: weeks -/
section PCMW
variable {m : Nat} {L : mjL} {H H' H0 H1 : mjH} {r : Option Value ⊕ Nat} {E : yE} {s : yR} {p w : Nat}
/-- a draw -/
theorem pm_draws (hT : HT H) (hw : w < 52) (hp : p < 17) (hE : mIn H E) (hWo : mWo E H s.wk s.hu w p) (hWr : ∀ o a h z, E.who o p a h z w = 0 ∨ E.who o p a h z w = 1 ∨ E.who o p a h z w = 2) (hA : mrA H s) (hn : ¬ p ∈ s.hr) (hl : s.hr.length < 17) (h1 : s.fi p = -1) (h2 : s.fb p = -1) (h : Pn none m 266 0 [(0, .ref 78), (1, .int (Int32.ofInt (p : Int))), (2, .int (Int32.ofInt (w : Int)))] [] H r H') :
    r = .inl none ∧ HT H' ∧ mFr H H' ∧ gI H' 78 48 = gI H 78 48 ∧ mrA H' (yrD E w p s) := by
  obtain ⟨hr, dr, fi, fb, wk, hu⟩ := s
  have h1 : fi p = -1 := h1
  have h2 : fb p = -1 := h2
  have hn : ¬ p ∈ hr := hn
  have hl : hr.length < 17 := hl
  obtain ⟨-, L', hL', r2, H2, q, k⟩ := m_dra0 hT ⟨rfl, rfl, rfl, trivial⟩ h
  rw [zz_cn (n := p)] at q
  have t1 := HT.pI (j := p) (x := Int32.ofInt (w : Int)) hT kA_562_100_17_false
  have f1 : mFr H (pV H 562 p (.int (Int32.ofInt (w : Int)))) := mFr.rf.put (by omega)
  obtain ⟨⟨a1, a2⟩, a3, a5, a6, a7, a8, a9, a10⟩ := hA
  -- with its week of the draw
  have hA1 : mrA (pV H 562 p (.int (Int32.ofInt (w : Int)))) (hr, yU dr p w, fi, fb, wk, hu) := by
    refine ⟨⟨(gI_ne (by omega)).trans a1, fun i x hx => (gI_ne (by omega)).trans (a2 i x hx)⟩, a3, a5, a6, fun q hq => ?_, (gI_ne (by omega)).trans a8, (gI_ne (by omega)).trans a9, (gI_ne (by omega)).trans a10⟩
    obtain ⟨⟨b1, b2, b3⟩, ⟨b4, b5⟩, b6, b7⟩ := a7 q hq
    show (_ = Int32.ofInt (yU dr p w q) ∧ _ ∧ _) ∧ _ ∧ (-1 ≤ yU dr p w q ∧ yU dr p w q ≤ 51) ∧ _
    refine ⟨⟨?_, (gI_ne (by omega)).trans b2, (gI_ne (by omega)).trans b3⟩, ⟨(gI_ne (by omega)).trans b4, (gI_ne (by omega)).trans b5⟩, ?_, b7⟩
    · by_cases g : q = p
      · rw [g, yU_at, gI_at hT kA_562_100_17_false hp]
      · rw [yU_ne g, gI_ne (by omega)]
        exact b1
    · by_cases g : q = p
      · rw [g, yU_at]
        omega
      · rw [yU_ne g]
        exact b6
  obtain ⟨d1, d2⟩ := pm_dead t1 (f1.mIn hE) hp hw q
  subst d1
  rw [d2] at k
  have hb := m_dra1 t1 hL' (pn_ret k)
  by_cases hd : E.dead w p = true
  · rw [if_pos hd] at hb
    rcases hb with ⟨c, -⟩ | ⟨-, -, e1, e2⟩
    · rw [zz_eq] at c
      omega
    rw [zz_cn (n := p), gI_ne (by omega)] at e2
    have t2 := HT.pI (j := p) (x := Int32.ofInt (w : Int)) t1 kA_563_100_17_false
    have t3 := HT.pFI (x := gI H 78 46 + Int32.ofInt 1) t2 kF_78_46_9_false
    rw [← e2] at t3
    have n1 : ∀ a b, ¬ (a = 563 ∧ b = p) → ¬ (a = 78 ∧ b = 46) → gI H' a b = gI (pV H 562 p (.int (Int32.ofInt (w : Int)))) a b := fun a b q1 q2 => by rw [e2, gI_ne q2, gI_ne q1]
    have ed : yrD E w p (hr, dr, fi, fb, wk, hu) = (hr, yU dr p w, yU fi p w, fb, wk, hu) := by
      unfold yrD
      rw [if_pos hd]
    refine ⟨e1, t3, by rw [e2]; exact (f1.put (by omega)).put (by omega), by rw [n1 _ _ (by omega) (by omega), gI_ne (by omega)], ?_⟩
    rw [ed]
    obtain ⟨⟨b1, b2⟩, b3, b5, b6, b7, b8, b9, b10⟩ := hA1
    refine ⟨⟨(n1 _ _ (by omega) (by omega)).trans b1, fun i x hx => (n1 _ _ (by omega) (by omega)).trans (b2 i x hx)⟩, b3, b5, fun x hx => ?_, fun q hq => ?_, ?_, ?_, ?_⟩
    · have hxp : x ≠ p := fun g => hn (by rw [← g]; exact hx)
      exact ⟨(yU_ne hxp).trans (b6 x hx).1, (b6 x hx).2⟩
    · obtain ⟨⟨c1, c2, c3⟩, ⟨c4, c5⟩, c6, c7⟩ := b7 q hq
      show (_ ∧ _ = Int32.ofInt (yU fi p w q) ∧ _) ∧ _ ∧ _ ∧ -1 ≤ yU fi p w q ∧ yU fi p w q ≤ 51
      refine ⟨⟨(n1 _ _ (by omega) (by omega)).trans c1, ?_, (n1 _ _ (by omega) (by omega)).trans c3⟩, ⟨(n1 _ _ (by omega) (by omega)).trans c4, (n1 _ _ (by omega) (by omega)).trans c5⟩, c6, ?_⟩
      · by_cases g : q = p
        · rw [g, yU_at, e2, gI_ne (by omega), gI_at t1 kA_563_100_17_false hp]
        · rw [yU_ne g, n1 _ _ (by omega) (by omega)]
          exact c2
      · by_cases g : q = p
        · rw [g, yU_at]
          omega
        · rw [yU_ne g]
          exact c7
    · rw [n1 _ _ (by omega) (by omega), b8]
      refine congrArg Int32.ofInt (sm_cg (fun x hx => ?_))
      show (if fi x ≠ -1 ∧ fb x ≠ -1 then (1 : Int) else 0) = if yU fi p w x ≠ -1 ∧ fb x ≠ -1 then 1 else 0
      by_cases g : x = p
      · rw [g, if_neg (fun z => z.2 h2), if_neg (fun z => z.2 h2)]
      · rw [yU_ne g]
    · rw [e2, gI_fat t2 kF_78_46_9_false, show gI H 78 46 = Int32.ofInt (cK (hr, dr, fi, fb, wk, hu)) from a9, zz_add]
      refine congrArg Int32.ofInt ?_
      have e : cK (hr, yU dr p w, yU fi p w, fb, wk, hu) = sm (yU (fun p => if fi p ≠ -1 ∧ fb p = -1 then 1 else 0) p 1) 17 := by
        refine sm_cg (fun x hx => ?_)
        show (if yU fi p w x ≠ -1 ∧ fb x = -1 then (1 : Int) else 0) = _
        by_cases g : x = p
        · rw [g, yU_at, yU_at, if_pos ⟨by omega, h2⟩]
        · rw [yU_ne g, yU_ne g]
      rw [e, sm_U hp, if_neg (fun z => z.1 h1)]
      show sm (fun p => if fi p ≠ -1 ∧ fb p = -1 then 1 else 0) 17 + 1 = _
      omega
    · rw [n1 _ _ (by omega) (by omega)]
      exact b10
  · rw [if_neg hd] at hb
    rcases hb with ⟨-, L2, hL2, h3⟩ | ⟨c, -⟩
    · have ih := pm_draL (H0 := H) (E := E) (dr := yU dr p w) (wk := wk) (hu := hu) hw hp hE hWo hWr m hr [] (hr.length : Int) fi fb L2 _ t1 f1 (gI_ne (by omega)) hA1 hn hl h1 h2 rfl hL2 h3
      have ed : yrD E w p (hr, dr, fi, fb, wk, hu) = ([] ++ (if (yrM E wk hu w p hr true (hr.length : Int) fi fb).2.1 = true then (yrM E wk hu w p hr true (hr.length : Int) fi fb).1 ++ [p] else (yrM E wk hu w p hr true (hr.length : Int) fi fb).1), yU dr p w, (yrM E wk hu w p hr true (hr.length : Int) fi fb).2.2.1, (yrM E wk hu w p hr true (hr.length : Int) fi fb).2.2.2, wk, hu) := by
        unfold yrD
        rw [if_neg hd, List.nil_append]
      rw [ed]
      exact ih
    · exact absurd rfl c
/-- another week -/
theorem pm_ageL {dr fi fb wk hu : Nat → Int} {hr : List Nat} (hE : mIn H0 E) : ∀ (m i : Nat) (L : mjL) (H : mjH), i ≤ hr.length → HT H → mFr H0 H → gI H 78 48 = gI H0 78 48 → mrA H (hr, dr, fi, fb, fun x => if x ∈ hr.take i then wk x + 1 else wk x, fun x => if x ∈ hr.take i ∧ ¬ E.tru x = true then hu x + 1 else hu x) → LG L [(0, .ref 78), (1, .int (Int32.ofInt (i : Int)))] → Pn none m 267 2 L [] H r H' →
    r = .inl none ∧ HT H' ∧ mFr H0 H' ∧ gI H' 78 48 = gI H0 78 48 ∧ mrA H' (yrA E (hr, dr, fi, fb, wk, hu))
  | 0, _, _, _, _, _, _, _, _, _, h => Pn0 h
  | m + 1, i, L, H, hi, hT, hF, h48, hA, hL, h => by
    have hE1 := hF.mIn hE
    have hA2 := hA
    obtain ⟨⟨a1, a2⟩, ⟨a3, a4⟩, a5, a6, a7, a8, a9, a10⟩ := hA2
    have a1 : gI H 78 44 = Int32.ofInt (hr.length : Int) := a1
    have a3 : hr.length ≤ 17 := a3
    have hb := m_ageL hT hL h
    rw [a1, zz_le, zz_cn (n := i)] at hb
    rcases hb with ⟨c, e1, e2⟩ | ⟨c, -, hb⟩
    · have e0 : i = hr.length := by omega
      subst e0
      rw [List.take_length] at hA
      rw [e2]
      exact ⟨e1, hT, hF, h48, hA⟩
    · have hi2 : i < hr.length := by omega
      have hx : hr[i]? = some hr[i] := List.getElem?_eq_getElem hi2
      generalize hr[i] = x at hx
      have hxm : x ∈ hr := List.mem_of_getElem? hx
      have hx17 := a4 x hxm
      have htk : hr.take (i + 1) = hr.take i ++ [x] := by
        rw [List.take_add_one, hx]
        rfl
      have hxt : ¬ x ∈ hr.take i := by
        intro g
        have h3 : hr.Nodup := a5
        rw [← List.take_append_drop (i + 1) hr, htk] at h3
        have h4 := (List.nodup_append.mp h3).1
        exact (List.nodup_append.mp h4).2.2 x g x List.mem_cons_self rfl
      have hmm : ∀ q, q ∈ hr.take (i + 1) ↔ q = x ∨ q ∈ hr.take i := by
        intro q
        rw [htk, List.mem_append, List.mem_singleton]
        exact Or.comm
      rw [a2 i x hx, zz_cn (n := x)] at hb
      obtain ⟨-, L', hL', r2, H2, q, k⟩ := hb
      have t1 := HT.pI (j := x) (x := gI H 565 x + Int32.ofInt 1) hT kA_565_100_17_false
      have f1 : mFr H0 (pV H 565 x (.int (gI H 565 x + Int32.ofInt 1))) := hF.put (by omega)
      obtain ⟨d1, d2⟩ := pm_true t1 (f1.mIn hE) hx17 q
      subst d1
      rw [d2] at k
      have hb := m_age1 t1 hL' (pn_ret k)
      rw [zz_cn (n := x)] at hb
      have hs : Int32.ofInt (i : Int) + Int32.ofInt 1 = Int32.ofInt ((i + 1 : Nat) : Int) := zz_add _ _
      rw [hs] at hb
      have ewx : gI H 565 x = Int32.ofInt (wk x) := by
        have h0 : gI H 565 x = Int32.ofInt (if x ∈ hr.take i then wk x + 1 else wk x) := (a7 x hx17).2.1.1
        rw [h0, if_neg hxt]
      have ehx : gI H 566 x = Int32.ofInt (hu x) := by
        have h0 : gI H 566 x = Int32.ofInt (if x ∈ hr.take i ∧ ¬ E.tru x = true then hu x + 1 else hu x) := (a7 x hx17).2.1.2
        rw [h0, if_neg (fun g => hxt g.1)]
      have w1 : ∀ q, (if q ∈ hr.take (i + 1) then wk q + 1 else wk q) = if q = x then wk x + 1 else (if q ∈ hr.take i then wk q + 1 else wk q) := by
        intro q
        by_cases g : q = x
        · rw [if_pos g, if_pos ((hmm q).mpr (Or.inl g)), g]
        · rw [if_neg g]
          by_cases g2 : q ∈ hr.take i
          · rw [if_pos g2, if_pos ((hmm q).mpr (Or.inr g2))]
          · rw [if_neg g2, if_neg (fun z => ((hmm q).mp z).elim g g2)]
      by_cases ht : E.tru x = true
      · rw [if_pos ht] at hb
        rcases hb with ⟨c, -⟩ | ⟨-, L2, hL2, h2⟩
        · rw [zz_eq] at c
          omega
        refine pm_ageL hE m (i + 1) L2 _ hi2 t1 f1 (by rw [gI_ne (by omega)]; exact h48) ?_ hL2 h2
        have h1 : ∀ q, (if q ∈ hr.take (i + 1) ∧ ¬ E.tru q = true then hu q + 1 else hu q) = if q ∈ hr.take i ∧ ¬ E.tru q = true then hu q + 1 else hu q := by
          intro q
          by_cases g2 : q ∈ hr.take i ∧ ¬ E.tru q = true
          · rw [if_pos g2, if_pos ⟨(hmm q).mpr (Or.inr g2.1), g2.2⟩]
          · rw [if_neg g2, if_neg (fun z => ((hmm q).mp z.1).elim (fun g => z.2 (by rw [g]; exact ht)) (fun g => g2 ⟨g, z.2⟩))]
        refine ⟨⟨(gI_ne (by omega)).trans a1, fun j y hy => (gI_ne (by omega)).trans (a2 j y hy)⟩, ⟨a3, a4⟩, a5, a6, fun q hq => ?_, (gI_ne (by omega)).trans a8, (gI_ne (by omega)).trans a9, (gI_ne (by omega)).trans (a10.trans (congrArg Int32.ofInt (sm_cg (fun q hq => (h1 q).symm))))⟩
        obtain ⟨⟨b1, b2, b3⟩, ⟨b4, b5⟩, b6⟩ := a7 q hq
        refine ⟨⟨(gI_ne (by omega)).trans b1, (gI_ne (by omega)).trans b2, (gI_ne (by omega)).trans b3⟩, ⟨?_, ?_⟩, b6⟩
        · show _ = Int32.ofInt (if q ∈ hr.take (i + 1) then wk q + 1 else wk q)
          rw [w1 q]
          by_cases g : q = x
          · rw [if_pos g, g, gI_at hT kA_565_100_17_false hx17, ewx, zz_add]
          · rw [if_neg g, gI_ne (by omega)]
            exact b4
        · show _ = Int32.ofInt (if q ∈ hr.take (i + 1) ∧ ¬ E.tru q = true then hu q + 1 else hu q)
          rw [h1 q, gI_ne (by omega)]
          exact b5
      · rw [if_neg ht] at hb
        rcases hb with ⟨-, -, L2, hL2, h2⟩ | ⟨c, -⟩
        · rw [gI_ne (by omega), gI_ne (by omega)] at h2
          have t2 := HT.pI (j := x) (x := gI H 566 x + Int32.ofInt 1) t1 kA_566_100_17_false
          refine pm_ageL hE m (i + 1) L2 _ hi2 (HT.pFI t2 kF_78_47_9_false) ((f1.put (by omega)).put (by omega)) (by rw [gI_ne (by omega), gI_ne (by omega), gI_ne (by omega)]; exact h48) ?_ hL2 h2
          have h1 : ∀ q, (if q ∈ hr.take (i + 1) ∧ ¬ E.tru q = true then hu q + 1 else hu q) = if q = x then hu x + 1 else (if q ∈ hr.take i ∧ ¬ E.tru q = true then hu q + 1 else hu q) := by
            intro q
            by_cases g : q = x
            · rw [if_pos g, if_pos ⟨(hmm q).mpr (Or.inl g), by rw [g]; exact ht⟩, g]
            · rw [if_neg g]
              by_cases g2 : q ∈ hr.take i ∧ ¬ E.tru q = true
              · rw [if_pos g2, if_pos ⟨(hmm q).mpr (Or.inr g2.1), g2.2⟩]
              · rw [if_neg g2, if_neg (fun z => ((hmm q).mp z.1).elim g (fun g3 => g2 ⟨g3, z.2⟩))]
          have n1 : ∀ a b, ¬ (a = 565 ∨ a = 566) → ¬ (a = 78 ∧ b = 47) → gI (pV (pV (pV H 565 x (.int (gI H 565 x + Int32.ofInt 1))) 566 x (.int (gI H 566 x + Int32.ofInt 1))) 78 47 (.int (gI H 78 47 + Int32.ofInt 1))) a b = gI H a b := fun a b q1 q2 => by rw [gI_ne (by omega), gI_ne (by omega), gI_ne (by omega)]
          refine ⟨⟨(n1 _ _ (by omega) (by omega)).trans a1, fun j y hy => (n1 _ _ (by omega) (by omega)).trans (a2 j y hy)⟩, ⟨a3, a4⟩, a5, a6, fun q hq => ?_, (n1 _ _ (by omega) (by omega)).trans a8, (n1 _ _ (by omega) (by omega)).trans a9, ?_⟩
          · obtain ⟨⟨b1, b2, b3⟩, ⟨b4, b5⟩, b6⟩ := a7 q hq
            refine ⟨⟨(n1 _ _ (by omega) (by omega)).trans b1, (n1 _ _ (by omega) (by omega)).trans b2, (n1 _ _ (by omega) (by omega)).trans b3⟩, ⟨?_, ?_⟩, b6⟩
            · show _ = Int32.ofInt (if q ∈ hr.take (i + 1) then wk q + 1 else wk q)
              rw [w1 q]
              by_cases g : q = x
              · rw [if_pos g, g, gI_ne (by omega), gI_ne (by omega), gI_at hT kA_565_100_17_false hx17, ewx, zz_add]
              · rw [if_neg g, gI_ne (by omega), gI_ne (by omega), gI_ne (by omega)]
                exact b4
            · show _ = Int32.ofInt (if q ∈ hr.take (i + 1) ∧ ¬ E.tru q = true then hu q + 1 else hu q)
              rw [h1 q]
              by_cases g : q = x
              · rw [if_pos g, g, gI_ne (by omega), gI_at t1 kA_566_100_17_false hx17, ehx, zz_add]
              · rw [if_neg g, gI_ne (by omega), gI_ne (by omega), gI_ne (by omega)]
                exact b5
          · rw [gI_fat t2 kF_78_47_9_false, a10, zz_add]
            refine congrArg Int32.ofInt ?_
            have e : cH (hr, dr, fi, fb, (fun x => if x ∈ hr.take (i + 1) then wk x + 1 else wk x), (fun x => if x ∈ hr.take (i + 1) ∧ ¬ E.tru x = true then hu x + 1 else hu x)) = sm (yU (fun x => if x ∈ hr.take i ∧ ¬ E.tru x = true then hu x + 1 else hu x) x (hu x + 1)) 17 := by
              refine sm_cg (fun q hq => ?_)
              show (if q ∈ hr.take (i + 1) ∧ ¬ E.tru q = true then hu q + 1 else hu q) = _
              rw [h1 q]
              by_cases g : q = x
              · rw [if_pos g, g, yU_at]
              · rw [if_neg g, yU_ne g]
            rw [e, sm_U hx17, if_neg (fun g => hxt g.1)]
            show sm (fun x => if x ∈ hr.take i ∧ ¬ E.tru x = true then hu x + 1 else hu x) 17 + 1 = _
            omega
        · exact absurd rfl c
theorem pm_ages (hT : HT H) (hE : mIn H E) (hA : mrA H s) (h : Pn none m 267 0 [(0, .ref 78)] [] H r H') : r = .inl none ∧ HT H' ∧ mFr H H' ∧ gI H' 78 48 = gI H 78 48 ∧ mrA H' (yrA E s) := by
  obtain ⟨L', hL, h'⟩ := m_age0 hT ⟨rfl, trivial⟩ h
  obtain ⟨hr, dr, fi, fb, wk, hu⟩ := s
  refine pm_ageL hE m 0 L' H (Nat.zero_le _) hT mFr.rf rfl ?_ hL h'
  have e1 : (fun x => if x ∈ hr.take 0 then wk x + 1 else wk x) = wk := by
    funext x
    exact if_neg (fun g => by cases g)
  have e2 : (fun x => if x ∈ hr.take 0 ∧ ¬ E.tru x = true then hu x + 1 else hu x) = hu := by
    funext x
    exact if_neg (fun g => by cases g.1)
  rw [e1, e2]
  exact hA
/-- those that are held, as bits -/
theorem pm_hnL {hr : List Nat} (hl : hr.length ≤ 17) (h17 : ∀ x, x ∈ hr → x < 17) (hT : HT H) (a1 : gI H 78 44 = Int32.ofInt (hr.length : Int)) (a2 : ∀ (i x : Nat), hr[i]? = some x → gI H 561 i = Int32.ofInt (x : Int)) : ∀ (m i : Nat) (b : Int32) (L : mjL), i ≤ hr.length → (∀ q, q < 32 → bt b q = decide (q ∈ hr.take i)) → LG L [(0, .ref 78), (1, .int b), (2, .int (Int32.ofInt (i : Int)))] → Pn none m 268 4 L [] H r H' →
    ∃ b : Int32, r = .inl (some (.int b)) ∧ H' = H ∧ ∀ q, q < 32 → bt b q = decide (q ∈ hr)
  | 0, _, _, _, _, _, _, h => Pn0 h
  | m + 1, i, b, L, hi, hb0, hL, h => by
    have hb := m_hnL hT hL h
    rw [a1, zz_le, zz_cn (n := i)] at hb
    rcases hb with ⟨c, e1, e2⟩ | ⟨c, -, L', hL', h'⟩
    · have e0 : i = hr.length := by omega
      subst e0
      rw [List.take_length] at hb0
      exact ⟨b, e1, e2, hb0⟩
    · have hi2 : i < hr.length := by omega
      have hx : hr[i]? = some hr[i] := List.getElem?_eq_getElem hi2
      generalize hr[i] = x at hx
      have hx17 := h17 x (List.mem_of_getElem? hx)
      rw [a2 i x hx] at hL'
      have hs : Int32.ofInt (i : Int) + Int32.ofInt 1 = Int32.ofInt ((i + 1 : Nat) : Int) := zz_add _ _
      rw [hs] at hL'
      refine pm_hnL hl h17 hT a1 a2 m (i + 1) _ L' hi2 (fun q hq => ?_) hL' h'
      rw [bz_set (by omega) hq, hb0 q hq, List.take_add_one, hx]
      rw [Bool.eq_iff_iff]
      simp only [Bool.or_eq_true, decide_eq_true_eq, List.mem_append, Option.toList_some, List.mem_singleton]
theorem pm_hn (hT : HT H) (hA : mrA H s) (h : Pn none m 268 0 [(0, .ref 78)] [] H r H') : ∃ b : Int32, r = .inl (some (.int b)) ∧ H' = H ∧ ∀ q, q < 32 → bt b q = decide (q ∈ s.hr) := by
  obtain ⟨L', hL, h'⟩ := m_hn0 hT ⟨rfl, trivial⟩ h
  refine pm_hnL hA.2.1.1 hA.2.1.2 hT hA.1.1 hA.1.2 m 0 _ L' (Nat.zero_le _) (fun q hq => ?_) hL h'
  exact bz_0.trans (decide_eq_false (fun g => by cases g)).symm
/-- what a week leaves behind -/
def mBeh (H : mjH) (E : yE) (row : Nat → Option Nat) (n : Nat) : Prop := ∀ w, w < n → (∀ q, q < 32 → bt (gI H 567 w) q = decide (q ∈ (yrG E row (w + 1) yR0).hr)) ∧ gI H 568 w = Int32.ofInt (match (yrG E row (w + 1) yR0).hr with | [] => -1 | x :: _ => (x : Int))
def mRow (H : mjH) (len : Nat) (row : Nat → Option Nat) : Prop := gI H 78 43 = Int32.ofInt (len : Int) ∧ len ≤ 17 ∧ (∀ w, w < len → ∃ p, row w = some p ∧ p < 17 ∧ gI H 560 w = Int32.ofInt (p : Int)) ∧ ∀ w, len ≤ w → row w = none
theorem pm_goL {row : Nat → Option Nat} {len : Nat} (hE : mIn H0 E) (hR : ∀ v w p : Nat, row v = some p → row w = some p → v = w) (hr : mRow H0 len row) (hM : ∀ v w p : Nat, v ≤ w → E.dead v p = true → E.dead w p = true) (hWo : ∀ (H1 : mjH) (wk hu : Nat → Int) (w p : Nat), HT H1 → gFr H0 H1 → gI H1 78 48 = gI H0 78 48 → w < 52 → p < 17 → mWo E H1 wk hu w p) (hWr : ∀ w o p a h z, E.who o p a h z w = 0 ∨ E.who o p a h z w = 1 ∨ E.who o p a h z w = 2) : ∀ (m w : Nat) (L : mjL) (H : mjH), w ≤ 52 → HT H → gFr H0 H → gI H 78 48 = gI H0 78 48 → mrA H (yrG E row w yR0) → mBeh H E row w → LG L [(0, .ref 78), (2, .int (Int32.ofInt (w : Int)))] → Pn none m 269 7 L [] H r H' →
    r = .inl (some (.int (gI H' 567 51 &&& Int32.ofInt 4095))) ∧ HT H' ∧ gFr H0 H' ∧ mrA H' (yrG E row 52 yR0) ∧ mBeh H' E row 52
  | 0, _, _, _, _, _, _, _, _, _, _, h => Pn0 h
  | m + 1, w, L, H, hw, hT, hF, h48, hA, hB, hL, h => by
    obtain ⟨r1, r2, r3, r4⟩ := hr
    have hb := m_goL hT hL h
    rw [zz_le] at hb
    rcases hb with ⟨c, e1, e2⟩ | ⟨c, L', hL', rr, H2, q, k⟩
    · have e0 : w = 52 := by omega
      subst e0
      rw [e2]
      exact ⟨e1, hT, hF, hA, hB⟩
    have hw2 : w < 52 := by omega
    obtain ⟨d1, d2, d3, d4⟩ := pm_kills hT hw2 (hF.mIn hE) hA q
    subst d1
    have hF2 := hF.tr d3
    have h482 : gI H2 78 48 = gI H0 78 48 := (d3.vI (by omega)).trans h48
    have hB2 : mBeh H2 E row w := fun v hv => by
      rw [d3.vI (a := 567) (by omega), d3.vI (a := 568) (by omega)]
      exact hB v hv
    have e43 : gI H2 78 43 = Int32.ofInt (len : Int) := (hF2.vI (by omega)).trans r1
    -- behind the draw
    have rest : ∀ (L3 : mjL) (H3 : mjH) (r3 : Option Value ⊕ Nat) (H4 : mjH), HT H3 → gFr H0 H3 → gI H3 78 48 = gI H0 78 48 → mBeh H3 E row w → (∀ s : yR, mrA H3 s → yrG E row (w + 1) yR0 = yrA E s → LG L3 [(0, .ref 78), (2, .int (Int32.ofInt (w : Int)))] → Pn none m 267 0 [(0, .ref 78)] [] H3 r3 H4 → ((∃ v, r3 = .inl v ∧ Pn none m 269 41 L3 (v.toList ++ []) H4 r H') ∨ (∃ E, r3 = .inr E ∧ r = .inr E ∧ H' = H4)) →
        r = .inl (some (.int (gI H' 567 51 &&& Int32.ofInt 4095))) ∧ HT H' ∧ gFr H0 H' ∧ mrA H' (yrG E row 52 yR0) ∧ mBeh H' E row 52) := by
      intro L3 H3 r3 H4 T3 F3 h483 B3 s A3 eS hL3 q3 k3
      obtain ⟨u1, u2, u3, u4, u5⟩ := pm_ages T3 (F3.mIn hE) A3 q3
      have B4 : mBeh H4 E row w := fun v hv => by
        rw [u3.vI (a := 567) (by omega), u3.vI (a := 568) (by omega)]
        exact B3 v hv
      subst u1
      have F4 := F3.tr u3
      obtain ⟨L5, hL5, r5, H5, q5, k5⟩ := m_go4 u2 hL3 (pn_ret k3)
      obtain ⟨b, e5, e6, e7⟩ := pm_hn u2 u5 q5
      subst e5
      rw [e6] at k5
      have hb := m_go5 u2 hL5 (pn_ret k5)
      rw [zz_cn (n := w)] at hb
      have hs : Int32.ofInt (w : Int) + Int32.ofInt 1 = Int32.ofInt ((w + 1 : Nat) : Int) := zz_add _ _
      rw [hs] at hb
      have e44 := u5.1.1
      have fin : ∀ (z : Int32) (L6 : mjL), z = Int32.ofInt (match (yrA E s).hr with | [] => -1 | x :: _ => (x : Int)) → LG L6 [(0, .ref 78), (2, .int (Int32.ofInt ((w + 1 : Nat) : Int)))] → Pn none m 269 7 L6 [] (pV (pV H4 567 w (.int b)) 568 w (.int z)) r H' → r = .inl (some (.int (gI H' 567 51 &&& Int32.ofInt 4095))) ∧ HT H' ∧ gFr H0 H' ∧ mrA H' (yrG E row 52 yR0) ∧ mBeh H' E row 52 := by
        intro z L6 hz hL6 h6
        have t1 := HT.pI (j := w) (x := b) u2 kA_567_100_52_false
        refine pm_goL hE hR ⟨r1, r2, r3, r4⟩ hM hWo hWr m (w + 1) L6 _ hw2 (HT.pI t1 kA_568_100_52_false) ((F4.put (by omega)).put (by omega)) (by rw [gI_ne (by omega), gI_ne (by omega), u4]; exact h483) ?_ (fun v hv => ?_) hL6 h6
        · rw [eS]
          obtain ⟨⟨a1, a2⟩, a3, a5, a6, a7, a8, a9, a10⟩ := u5
          have n1 : ∀ a b2, a ≠ 567 → a ≠ 568 → gI (pV (pV H4 567 w (.int b)) 568 w (.int z)) a b2 = gI H4 a b2 := fun a b2 q1 q2 => by rw [gI_ne (by omega), gI_ne (by omega)]
          exact ⟨⟨(n1 _ _ (by omega) (by omega)).trans a1, fun i x hx => (n1 _ _ (by omega) (by omega)).trans (a2 i x hx)⟩, a3, a5, a6, a7.cg (fun a b2 q1 q2 => n1 _ _ (by omega) (by omega)), (n1 _ _ (by omega) (by omega)).trans a8, (n1 _ _ (by omega) (by omega)).trans a9, (n1 _ _ (by omega) (by omega)).trans a10⟩
        · by_cases g : v = w
          · subst g
            refine ⟨fun q hq => ?_, ?_⟩
            · rw [gI_ne (by omega), gI_at u2 kA_567_100_52_false hw2, e7 q hq, eS]
            · rw [gI_at t1 kA_568_100_52_false hw2, hz, eS]
          · obtain ⟨b1, b2⟩ := B4 v (by omega)
            refine ⟨fun q hq => ?_, ?_⟩
            · rw [gI_ne (by omega), gI_ne (by omega)]
              exact b1 q hq
            · rw [gI_ne (by omega), gI_ne (by omega)]
              exact b2
      rw [e44, zz_eq (h2 := by have := u5.2.1.1; omega)] at hb
      rcases hb with ⟨-, ⟨c, L6, hL6, h6⟩ | ⟨c, L6, hL6, h6⟩⟩
      · refine fin _ L6 ?_ hL6 h6
        cases e : (yrA E s).hr with
        | nil =>
          rw [e] at c
          exact absurd rfl c
        | cons x l =>
          exact u5.1.2 0 x (by rw [e]; rfl)
      · refine fin _ L6 ?_ hL6 h6
        cases e : (yrA E s).hr with
        | nil => rfl
        | cons x l =>
          rw [e] at c
          exact absurd (by rw [List.length_cons]; omega) c
    have hb := m_go2 d2 hL' (pn_ret k)
    rw [e43, zz_le, zz_cn (n := w)] at hb
    rcases hb with ⟨c, L3, hL3, rr3, H4, q3, k3⟩ | ⟨c, -, L3, hL3, rr3, H4, q3, k3⟩
    · refine rest L3 H2 rr3 H4 d2 hF2 h482 hB2 (yrK E w (yrG E row w yR0)) d4 ?_ hL3 q3 k3
      exact yrW_none (r4 w (by omega))
    · obtain ⟨p, hp, hp17, hpr⟩ := r3 w (by omega)
      rw [(hF2.vI (by omega)).trans hpr] at q3
      -- not drawn yet
      have hI := yG_ok (c := (([], fun _ => -1, fun _ => -1, fun _ => -1) : yC)) rfl rfl hWr hM hR w (by omega)
      have hK := yK_ok hw2 hI
      have hdr : (yrG E row w yR0).dr p < 0 := by
        rcases Int.lt_or_le ((yrG E row w yR0).dr p) 0 with g | g
        · exact g
        · obtain ⟨v, g1, g2⟩ := yrG_dr w p g
          have := hR v w p g2 hp
          omega
      obtain ⟨n1, n2, n3, n4, n5⟩ := hK.no p hdr
      have hlen : (yrK E w (yrG E row w yR0)).hr.length < 17 := by
        have h1 : (yrK E w (yrG E row w yR0)).hr.length ≤ (yrG E row w yR0).hr.length := List.length_filter_le _ _
        have h2 := (yrG_sub (E := E) (row := row) w).length_le
        have h3 : ∀ w, (yPre row w).length ≤ w := by
          intro w
          induction w with
          | zero => exact Nat.le_refl _
          | succ w ih =>
            cases e : row w with
            | none =>
              rw [yPre_none e]
              omega
            | some q =>
              rw [yPre_some e, List.length_append]
              simp only [List.length_singleton]
              omega
        have := h3 w
        omega
      obtain ⟨u1, u2, u3, u4, u5⟩ := pm_draws d2 hw2 hp17 (hF2.mIn hE) (hWo H2 _ _ w p d2 hF2 h482 hw2 hp17) (hWr w · p) d4 n2 hlen n3 n4 q3
      have B4 : mBeh H4 E row w := fun v hv => by
        rw [u3.vI (a := 567) (by omega), u3.vI (a := 568) (by omega)]
        exact hB2 v hv
      subst u1
      obtain ⟨L5, hL5, r5, H5, q5, k5⟩ := m_go3 u2 hL3 (pn_ret k3)
      refine rest L5 H4 r5 H5 u2 (hF2.tr u3) (u4.trans h482) B4 (yrD E w p (yrK E w (yrG E row w yR0))) u5 ?_ hL5 q5 k5
      exact yrW_some hp
/-- a year begins -/
theorem pm_begL : ∀ (m i : Nat) (L : mjL) (H : mjH), i ≤ 17 → HT H → (∀ p, p < i → gI H 562 p = Int32.ofInt (-1) ∧ gI H 563 p = Int32.ofInt (-1) ∧ gI H 564 p = Int32.ofInt (-1) ∧ gI H 565 p = Int32.ofInt 0 ∧ gI H 566 p = Int32.ofInt 0) → LG L [(0, .ref 78), (2, .int (Int32.ofInt (i : Int)))] → Pn none m 260 27 L [] H r H' →
    r = .inl none ∧ HT H' ∧ (∀ a b, ¬ (562 ≤ a ∧ a ≤ 566) → sxEl H' a b = sxEl H a b) ∧ ∀ p, p < 17 → gI H' 562 p = Int32.ofInt (-1) ∧ gI H' 563 p = Int32.ofInt (-1) ∧ gI H' 564 p = Int32.ofInt (-1) ∧ gI H' 565 p = Int32.ofInt 0 ∧ gI H' 566 p = Int32.ofInt 0
  | 0, _, _, _, _, _, _, _, h => Pn0 h
  | m + 1, i, L, H, hi, hT, hA, hL, h => by
    have hb := m_begL hT hL h
    rw [zz_le, zz_cn (n := i)] at hb
    rcases hb with ⟨c, e1, e2⟩ | ⟨c, -, L', hL', h'⟩
    · rw [e2]
      exact ⟨e1, hT, fun _ _ _ => rfl, fun p hp => hA p (by omega)⟩
    · have hi2 : i < 17 := by omega
      have t1 := HT.pI (j := i) (x := Int32.ofInt (-1)) hT kA_562_100_17_false
      have t2 := HT.pI (j := i) (x := Int32.ofInt (-1)) t1 kA_563_100_17_false
      have t3 := HT.pI (j := i) (x := Int32.ofInt (-1)) t2 kA_564_100_17_false
      have t4 := HT.pI (j := i) (x := Int32.ofInt 0) t3 kA_565_100_17_false
      have t5 := HT.pI (j := i) (x := Int32.ofInt 0) t4 kA_566_100_17_false
      rw [show Int32.ofInt (i : Int) + Int32.ofInt 1 = Int32.ofInt ((i + 1 : Nat) : Int) from zz_add _ _] at hL'
      obtain ⟨d1, d2, d3, d4⟩ := pm_begL m (i + 1) L' _ hi2 t5 (fun p hp => by
        by_cases g : p = i
        · subst g
          refine ⟨?_, ?_, ?_, ?_, ?_⟩
          · rw [gI_ne (by omega), gI_ne (by omega), gI_ne (by omega), gI_ne (by omega), gI_at hT kA_562_100_17_false hi2]
          · rw [gI_ne (by omega), gI_ne (by omega), gI_ne (by omega), gI_at t1 kA_563_100_17_false hi2]
          · rw [gI_ne (by omega), gI_ne (by omega), gI_at t2 kA_564_100_17_false hi2]
          · rw [gI_ne (by omega), gI_at t3 kA_565_100_17_false hi2]
          · rw [gI_at t4 kA_566_100_17_false hi2]
        · obtain ⟨b1, b2, b3, b4, b5⟩ := hA p (by omega)
          refine ⟨?_, ?_, ?_, ?_, ?_⟩
          · rw [gI_ne (by omega), gI_ne (by omega), gI_ne (by omega), gI_ne (by omega), gI_ne (by omega)]
            exact b1
          · rw [gI_ne (by omega), gI_ne (by omega), gI_ne (by omega), gI_ne (by omega), gI_ne (by omega)]
            exact b2
          · rw [gI_ne (by omega), gI_ne (by omega), gI_ne (by omega), gI_ne (by omega), gI_ne (by omega)]
            exact b3
          · rw [gI_ne (by omega), gI_ne (by omega), gI_ne (by omega), gI_ne (by omega), gI_ne (by omega)]
            exact b4
          · rw [gI_ne (by omega), gI_ne (by omega), gI_ne (by omega), gI_ne (by omega), gI_ne (by omega)]
            exact b5) hL' h'
      refine ⟨d1, d2, fun a b hab => ?_, d4⟩
      rw [d3 a b hab, sxEl_ne (by omega), sxEl_ne (by omega), sxEl_ne (by omega), sxEl_ne (by omega), sxEl_ne (by omega)]
theorem sm_0 {f : Nat → Int} (h : ∀ x, f x = 0) : ∀ n, sm f n = 0
  | 0 => rfl
  | n + 1 => by
    unfold sm
    rw [sm_0 h n, h n]
    rfl
theorem pm_begins {law : Int32} (hT : HT H) (h : Pn none m 260 0 [(0, .ref 78), (1, .int law)] [] H r H') : r = .inl none ∧ HT H' ∧ gI H' 78 48 = law ∧ (∀ a b, ¬ (562 ≤ a ∧ a ≤ 566) → ¬ (a = 78 ∧ 44 ≤ b ∧ b ≤ 48) → sxEl H' a b = sxEl H a b) ∧ mrA H' yR0 := by
  obtain ⟨L', hL, h'⟩ := m_beg0 hT ⟨rfl, rfl, trivial⟩ h
  have t1 := HT.pFI (x := law) hT kF_78_48_9_false
  have t2 := HT.pFI (x := Int32.ofInt 0) t1 kF_78_44_9_false
  have t3 := HT.pFI (x := Int32.ofInt 0) t2 kF_78_45_9_false
  have t4 := HT.pFI (x := Int32.ofInt 0) t3 kF_78_46_9_false
  have t5 := HT.pFI (x := Int32.ofInt 0) t4 kF_78_47_9_false
  obtain ⟨d1, d2, d3, d4⟩ := pm_begL m 0 L' _ (Nat.zero_le _) t5 (fun p hp => absurd hp (Nat.not_lt_zero p)) hL h'
  have n1 : ∀ b, gI H' 78 b = gI (pV (pV (pV (pV (pV H 78 48 (.int law)) 78 44 (.int (Int32.ofInt 0))) 78 45 (.int (Int32.ofInt 0))) 78 46 (.int (Int32.ofInt 0))) 78 47 (.int (Int32.ofInt 0))) 78 b := fun b => by
    unfold gI
    rw [d3 78 b (by omega)]
  refine ⟨d1, d2, ?_, fun a b q1 q2 => ?_, ⟨?_, fun i x hx => (by cases hx)⟩, ⟨Nat.zero_le _, fun x hx => (by cases hx)⟩, List.nodup_nil, fun x hx => (by cases hx), fun p hp => ?_, ?_, ?_, ?_⟩
  · rw [n1, gI_ne (by omega), gI_ne (by omega), gI_ne (by omega), gI_ne (by omega), gI_fat hT kF_78_48_9_false]
  · rw [d3 a b q1, sxEl_ne (by omega), sxEl_ne (by omega), sxEl_ne (by omega), sxEl_ne (by omega), sxEl_ne (by omega)]
  · rw [n1, gI_ne (by omega), gI_ne (by omega), gI_ne (by omega), gI_fat t1 kF_78_44_9_false]
    rfl
  · obtain ⟨b1, b2, b3, b4, b5⟩ := d4 p hp
    exact ⟨⟨b1, b2, b3⟩, ⟨b4, b5⟩, by show (-1 ≤ (-1 : Int) ∧ (-1 : Int) ≤ 51) ∧ -1 ≤ (-1 : Int) ∧ (-1 : Int) ≤ 51; omega⟩
  · rw [n1, gI_ne (by omega), gI_ne (by omega), gI_fat t2 kF_78_45_9_false]
    exact congrArg Int32.ofInt (sm_0 (fun x => if_neg (fun z => z.1 rfl)) 17).symm
  · rw [n1, gI_ne (by omega), gI_fat t3 kF_78_46_9_false]
    exact congrArg Int32.ofInt (sm_0 (fun x => if_neg (fun z => z.1 rfl)) 17).symm
  · rw [n1, gI_fat t4 kF_78_47_9_false]
    exact congrArg Int32.ofInt (sm_0 (fun x => rfl) 17).symm
/-- a whole year -/
theorem pm_goes {row : Nat → Option Nat} {len : Nat} {law : Int32} (hT : HT H) (hE : mIn H E) (hR : ∀ v w p : Nat, row v = some p → row w = some p → v = w) (hr : mRow H len row) (hM : ∀ v w p : Nat, v ≤ w → E.dead v p = true → E.dead w p = true) (hWo : ∀ (H1 : mjH) (wk hu : Nat → Int) (w p : Nat), HT H1 → (∀ a b, ¬ (561 ≤ a ∧ a ≤ 569) → a ≠ 559 → ¬ (a = 78 ∧ 44 ≤ b ∧ b ≤ 48) → sxEl H1 a b = sxEl H a b) → gI H1 78 48 = law → w < 52 → p < 17 → mWo E H1 wk hu w p) (hWr : ∀ w o p a h z, E.who o p a h z w = 0 ∨ E.who o p a h z w = 1 ∨ E.who o p a h z w = 2)
    (h : Pn none m 269 0 [(0, .ref 78), (1, .int law)] [] H r H') : r = .inl (some (.int (gI H' 567 51 &&& Int32.ofInt 4095))) ∧ HT H' ∧ (∀ a b, ¬ (561 ≤ a ∧ a ≤ 569) → a ≠ 559 → ¬ (a = 78 ∧ 44 ≤ b ∧ b ≤ 48) → sxEl H' a b = sxEl H a b) ∧ mrA H' (yrG E row 52 yR0) ∧ mBeh H' E row 52 := by
  obtain ⟨L1, hL1, r2, H2, q, k⟩ := m_go0 hT ⟨rfl, rfl, trivial⟩ h
  obtain ⟨d1, d2, d3, d4, d5⟩ := pm_begins hT q
  subst d1
  obtain ⟨L2, hL2, h2⟩ := m_go1 d2 hL1 (pn_ret k)
  have vI : ∀ a b, ¬ (562 ≤ a ∧ a ≤ 566) → ¬ (a = 78 ∧ 44 ≤ b ∧ b ≤ 48) → gI H2 a b = gI H a b := fun a b q1 q2 => by
    unfold gI
    rw [d4 a b q1 q2]
  have vL : ∀ a b, ¬ (562 ≤ a ∧ a ≤ 566) → ¬ (a = 78 ∧ 44 ≤ b ∧ b ≤ 48) → gL H2 a b = gL H a b := fun a b q1 q2 => by
    unfold gL
    rw [d4 a b q1 q2]
  have hE2 : mIn H2 E := by
    refine ⟨fun w p hw hp => ?_, fun w o p hw ho hp => ?_, fun p hp => ?_⟩
    · rw [vL 86 p (by omega) (by omega), vL 89 w (by omega) (by omega)]
      exact hE.1 w p hw hp
    · rw [vL 86 o (by omega) (by omega), vL 86 p (by omega) (by omega), vL 89 w (by omega) (by omega)]
      exact hE.2.1 w o p hw ho hp
    · rw [vL 86 p (by omega) (by omega), vI 82 4 (by omega) (by omega)]
      exact hE.2.2 p hp
  have hr2 : mRow H2 len row := ⟨(vI _ _ (by omega) (by omega)).trans hr.1, hr.2.1, fun w hw => by
    obtain ⟨p, p1, p2, p3⟩ := hr.2.2.1 w hw
    exact ⟨p, p1, p2, (vI _ _ (by omega) (by omega)).trans p3⟩, hr.2.2.2⟩
  obtain ⟨u1, u2, u3, u4, u5⟩ := pm_goL (H0 := H2) hE2 hR hr2 hM (fun H1 wk hu w p t f e48 hw hp => hWo H1 wk hu w p t (fun a b q1 q2 q3 => (f a b (by omega)).trans (d4 a b (by omega) (by omega))) (e48.trans d3) hw hp) hWr m 0 L2 H2 (Nat.zero_le _) d2 gFr.rf rfl d5 (fun v hv => absurd hv (Nat.not_lt_zero v)) hL2 h2
  exact ⟨u1, u2, fun a b q1 q2 q3 => (u3 a b (by omega)).trans (d4 a b (by omega) (by omega)), u4, u5⟩
end PCMW

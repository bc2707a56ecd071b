/-! PC: the reference's year: a draw, ages, weeks -/
section PCMD
variable {m : Nat} {L : mjL} {H H' H0 H1 : mjH} {r : Option Value ⊕ Nat} {E : yE} {s : yR} {p w : Nat}
/-- a piece falls -/
theorem mrP.drop {o : Nat} (hT : HT H) (h : mrP H s) (hp : p < 17) (hw : w < 52) : mrP (pV (pV (pV H 563 p (.int (Int32.ofInt (w : Int)))) 564 p (.int (Int32.ofInt (o : Int)))) 78 45 (.int (gI H 78 45 + Int32.ofInt 1))) (s.hr, s.dr, yU s.fi p w, yU s.fb p o, s.wk, s.hu) := by
  have t1 := HT.pI (j := p) (x := Int32.ofInt (w : Int)) hT kA_563_100_17_false
  intro q hq
  obtain ⟨⟨h1, h2, h3⟩, ⟨h4, h5⟩, h6, h7⟩ := h q hq
  show (_ ∧ _ = Int32.ofInt (yU s.fi p w q) ∧ _ = Int32.ofInt (yU s.fb p o q)) ∧ _ ∧ _ ∧ -1 ≤ yU s.fi p w q ∧ yU s.fi p w q ≤ 51
  refine ⟨⟨?_, ?_, ?_⟩, ⟨?_, ?_⟩, h6, ?_⟩
  · rw [gI_ne (by omega), gI_ne (by omega), gI_ne (by omega)]
    exact h1
  · by_cases g : q = p
    · rw [g, yU_at, gI_ne (by omega), gI_ne (by omega), gI_at hT kA_563_100_17_false hp]
    · rw [yU_ne g, gI_ne (by omega), gI_ne (by omega), gI_ne (by omega)]
      exact h2
  · by_cases g : q = p
    · rw [g, yU_at, gI_ne (by omega), gI_at t1 kA_564_100_17_false hp]
    · rw [yU_ne g, gI_ne (by omega), gI_ne (by omega), gI_ne (by omega)]
      exact h3
  · rw [gI_ne (by omega), gI_ne (by omega), gI_ne (by omega)]
    exact h4
  · rw [gI_ne (by omega), gI_ne (by omega), gI_ne (by omega)]
    exact h5
  · by_cases g : q = p
    · rw [g, yU_at]
      omega
    · rw [yU_ne g]
      exact h7
theorem cF_drop {o : Nat} (hp : p < 17) (hfi : s.fi p = -1) : cF (s.hr, s.dr, yU s.fi p w, yU s.fb p o, s.wk, s.hu) = cF s + 1 := by
  have e : cF (s.hr, s.dr, yU s.fi p w, yU s.fb p o, s.wk, s.hu) = sm (yU (fun p => if s.fi p ≠ -1 ∧ s.fb p ≠ -1 then 1 else 0) p 1) 17 := by
    refine sm_cg (fun x hx => ?_)
    show (if yU s.fi p w x ≠ -1 ∧ yU s.fb p o x ≠ -1 then (1 : Int) else 0) = _
    by_cases g : x = p
    · rw [g, yU_at, yU_at, yU_at, if_pos ⟨by omega, by omega⟩]
    · rw [yU_ne g, yU_ne g, yU_ne g]
  rw [e, sm_U hp, if_neg (fun z => z.1 hfi)]
  unfold cF
  omega
theorem cK_drop {o : Nat} (hfi : s.fi p = -1) : cK (s.hr, s.dr, yU s.fi p w, yU s.fb p o, s.wk, s.hu) = cK s := by
  refine sm_cg (fun x hx => ?_)
  show (if yU s.fi p w x ≠ -1 ∧ yU s.fb p o x = -1 then (1 : Int) else 0) = if s.fi x ≠ -1 ∧ s.fb x = -1 then 1 else 0
  by_cases g : x = p
  · rw [g, yU_at, yU_at, if_neg (by omega), if_neg (fun z => z.1 hfi)]
  · rw [yU_ne g, yU_ne g]
theorem pm_drop {o : Nat} (hT : HT H) (hp : p < 17) (h : Pn none m 265 0 [(0, .ref 78), (1, .int (Int32.ofInt (p : Int))), (2, .int (Int32.ofInt (o : Int))), (3, .int (Int32.ofInt (w : Int)))] [] H r H') : r = .inl none ∧ H' = pV (pV (pV H 563 p (.int (Int32.ofInt (w : Int)))) 564 p (.int (Int32.ofInt (o : Int)))) 78 45 (.int (gI H 78 45 + Int32.ofInt 1)) := by
  have h := pm_drops hT h
  rw [zz_cn (n := p)] at h
  exact h
theorem dropT {o : Nat} {x : Int32} (hT : HT H) : HT (pV (pV (pV H 563 p (.int (Int32.ofInt (w : Int)))) 564 p (.int (Int32.ofInt (o : Int)))) 78 45 (.int x)) := HT.pFI (HT.pI (HT.pI hT kA_563_100_17_false) kA_564_100_17_false) kF_78_45_9_false
theorem mFr.drop {o : Nat} {x : Int32} (h : mFr H0 H) : mFr H0 (pV (pV (pV H 563 p (.int (Int32.ofInt (w : Int)))) 564 p (.int (Int32.ofInt (o : Int)))) 78 45 (.int x)) := ((h.put (by omega)).put (by omega)).put (by omega)
/-- who falls, as the reference says it -/
def mWo (E : yE) (H0 : mjH) (wk hu : Nat → Int) (w p : Nat) : Prop := ∀ (m : Nat) (H : mjH) (r : Option Value ⊕ Nat) (H' : mjH) (o : Nat) (z : Int), HT H → mFr H0 H → gI H 78 48 = gI H0 78 48 → o < 17 → gI H 565 o = Int32.ofInt (wk o) → gI H 566 o = Int32.ofInt (hu o) → gI H 78 44 = Int32.ofInt z → 0 ≤ z → z ≤ 17 → Pn none m 264 0 [(0, .ref 78), (1, .int (Int32.ofInt (o : Int))), (2, .int (Int32.ofInt (p : Int))), (3, .int (Int32.ofInt (w : Int)))] [] H r H' →
  r = .inl (some (.int (Int32.ofInt (E.who o p (wk o) (hu o) z w)))) ∧ HT H' ∧ ∀ a b, a ≠ 559 → a ≠ 569 → sxEl H' a b = sxEl H a b
theorem yrM_k {wk hu fi fb : Nat → Int} {z : Int} {o : Nat} {l : List Nat} (h : E.fal w o p = false) : yrM E wk hu w p (o :: l) true z fi fb = (o :: (yrM E wk hu w p l true z fi fb).1, (yrM E wk hu w p l true z fi fb).2) := by
  rw [yrM, if_neg (by rw [h]; decide)]
theorem yrM_0 {wk hu fi fb : Nat → Int} {z : Int} {o : Nat} {l : List Nat} (h : E.fal w o p = true) (e : E.who o p (wk o) (hu o) z w = 0) : yrM E wk hu w p (o :: l) true z fi fb = yrM E wk hu w p l false (z - 1) (yU (yU fi p w) o w) (yU (yU fb p o) o p) := by
  rw [yrM, if_pos h, if_pos e]
theorem yrM_1 {wk hu fi fb : Nat → Int} {z : Int} {o : Nat} {l : List Nat} (h : E.fal w o p = true) (e : E.who o p (wk o) (hu o) z w = 1) : yrM E wk hu w p (o :: l) true z fi fb = (o :: l, false, yU fi p w, yU fb p o) := by
  rw [yrM, if_pos h, if_neg (by rw [e]; decide), if_pos e]
theorem yrM_2 {wk hu fi fb : Nat → Int} {z : Int} {o : Nat} {l : List Nat} (h : E.fal w o p = true) (e : E.who o p (wk o) (hu o) z w = 2) : yrM E wk hu w p (o :: l) true z fi fb = yrM E wk hu w p l true (z - 1) (yU fi o w) (yU fb o p) := by
  rw [yrM, if_pos h, if_neg (by rw [e]; decide), if_neg (by rw [e]; decide)]
/-- what stands while a piece is drawn: the row of those that are held, and all else but p's own -/
def mrD (H : mjH) (l : List Nat) (dr fi fb wk hu : Nat → Int) (p : Nat) : Prop := mrA H (l, dr, fi, fb, wk, hu) ∧ ¬ p ∈ l
theorem pm_draL {dr wk hu : Nat → Int} (hw : w < 52) (hp : p < 17) (hE : mIn H0 E) (hWo : mWo E H0 wk hu w p) (hWr : ∀ o a h z, E.who o p a h z w = 0 ∨ E.who o p a h z w = 1 ∨ E.who o p a h z w = 2) : ∀ (m : Nat) (rest K : List Nat) (z : Int) (fi fb : Nat → Int) (L : mjL) (H : mjH), HT H → mFr H0 H → gI H 78 48 = gI H0 78 48 → mrA H (K ++ rest, dr, fi, fb, wk, hu) → ¬ p ∈ K ++ rest → (K ++ rest).length < 17 → fi p = -1 → fb p = -1 → z = ((K ++ rest).length : Int) →
    LG L [(0, .ref 78), (1, .int (Int32.ofInt (p : Int))), (2, .int (Int32.ofInt (w : Int))), (3, .int (Int32.ofInt (K.length : Int)))] → Pn none m 266 36 L [] H r H' →
    r = .inl none ∧ HT H' ∧ mFr H0 H' ∧ gI H' 78 48 = gI H0 78 48 ∧ mrA H' (K ++ (if (yrM E wk hu w p rest true z fi fb).2.1 = true then (yrM E wk hu w p rest true z fi fb).1 ++ [p] else (yrM E wk hu w p rest true z fi fb).1), dr, (yrM E wk hu w p rest true z fi fb).2.2.1, (yrM E wk hu w p rest true z fi fb).2.2.2, wk, hu)
  | 0, _, _, _, _, _, _, _, _, _, _, _, _, _, _, _, _, _, h => Pn0 h
  | m + 1, rest, K, z, fi, fb, L, H, hT, hF, h48, hA, hpn, hl17, hfp, hbp, hz, hL, h => by
    have hE1 := hF.mIn hE
    have hA2 := hA
    obtain ⟨⟨a1, a2⟩, ⟨a3, a4⟩, a5, a6, a7, a8, a9, a10⟩ := hA2
    have a1 : gI H 78 44 = Int32.ofInt ((K ++ rest).length : Int) := a1
    have hlen : (K ++ rest).length = K.length + rest.length := List.length_append
    have hfp2 : gI H 563 p = Int32.ofInt (-1) := by
      have h0 : gI H 563 p = Int32.ofInt (fi p) := (a7 p hp).1.2.1
      rw [h0, hfp]
    have hb := m_draL hT hL h
    rw [a1, zz_le, zz_cn (n := p), zz_cn (n := K.length), hfp2] at hb
    cases rest with
    | nil =>
      rcases hb with ⟨c, -, hb⟩ | ⟨c, -⟩
      · rcases hb with ⟨-, -, e1, e2⟩ | ⟨c2, -⟩
        · rw [zz_cn, zz_add] at e2
          rw [List.append_nil] at a1 a2 a3 a4 a5 a6 a7 a8 a9 a10 hpn hl17 e2
          have t1 := HT.pI (j := K.length) (x := Int32.ofInt (p : Int)) hT kA_561_100_17_false
          have t2 := HT.pFI (x := Int32.ofInt ((K.length : Int) + 1)) t1 kF_78_44_9_false
          rw [← e2] at t2
          have n1 : ∀ a b, ¬ (a = 561 ∧ b = K.length) → ¬ (a = 78 ∧ b = 44) → gI H' a b = gI H a b := fun a b q1 q2 => by rw [e2, gI_ne q2, gI_ne q1]
          refine ⟨e1, t2, by rw [e2]; exact (hF.put (by omega)).put (by omega), by rw [n1 _ _ (by omega) (by omega)]; exact h48, ?_⟩
          show mrA H' (K ++ ([] ++ [p]), dr, fi, fb, wk, hu)
          rw [List.nil_append]
          refine ⟨⟨?_, fun i x hx => ?_⟩, ⟨by show (K ++ [p]).length ≤ 17; rw [List.length_append, List.length_singleton]; omega, fun x hx => ?_⟩, yNd a5 hpn, fun x hx => ?_, a7.cg (fun a b q1 q2 => n1 _ _ (by omega) (by omega)), ?_, ?_, ?_⟩
          · rw [e2, gI_fat t1 kF_78_44_9_false]
            exact congrArg Int32.ofInt (by show _ = ((K ++ [p]).length : Int); rw [List.length_append]; rfl)
          · have hx : (K ++ [p])[i]? = some x := hx
            rcases Nat.lt_or_ge i K.length with g | g
            · rw [List.getElem?_append_left g] at hx
              rw [n1 _ _ (by omega) (by omega)]
              exact a2 i x hx
            · rw [List.getElem?_append_right g] at hx
              have h0 : i - K.length = 0 := by
                have := (List.getElem?_eq_some_iff.mp hx).1
                simp only [List.length_singleton] at this
                omega
              rw [h0] at hx
              cases hx
              rw [show i = K.length by omega, e2, gI_ne (by omega), gI_at hT kA_561_100_17_false hl17]
          · rcases List.mem_append.mp hx with g | g
            · exact a4 x g
            · rw [List.mem_singleton.mp g]
              exact hp
          · rcases List.mem_append.mp hx with g | g
            · exact a6 x g
            · rw [List.mem_singleton.mp g]
              exact ⟨hfp, hbp⟩
          · rw [n1 _ _ (by omega) (by omega)]
            exact a8
          · rw [n1 _ _ (by omega) (by omega)]
            exact a9
          · rw [n1 _ _ (by omega) (by omega)]
            exact a10
        · exact absurd rfl c2
      · simp only [List.length_nil] at hlen
        omega
    | cons o rest =>
      have hl2 : (o :: rest).length = rest.length + 1 := rfl
      rcases hb with ⟨c, -⟩ | ⟨-, -, hb⟩
      · omega
      rcases hb with ⟨c, -⟩ | ⟨-, -, L', hL', r2, H2, q, k⟩
      · exact absurd rfl c
      have eo : (K ++ o :: rest)[K.length]? = some o := by
        rw [List.getElem?_append_right (Nat.le_refl _), Nat.sub_self]
        rfl
      have hom : o ∈ K ++ o :: rest := List.mem_append_right _ List.mem_cons_self
      have ho17 := a4 o hom
      have hop : o ≠ p := fun g => hpn (by rw [← g]; exact hom)
      have hnd := (List.nodup_append.mp a5)
      have hor : ¬ o ∈ rest := (List.nodup_cons.mp hnd.2.1).1
      have hoK : ¬ o ∈ K := fun g => hnd.2.2 o g o List.mem_cons_self rfl
      rw [a2 K.length o eo] at q hL'
      obtain ⟨d1, d2⟩ := pm_falls hT hE1 ho17 hp hw q
      subst d1
      rw [d2] at k
      have hb := m_dra2 hT hL' (pn_ret k)
      have hs : Int32.ofInt (K.length : Int) + Int32.ofInt 1 = Int32.ofInt ((K ++ [o]).length : Int) := by
        rw [zz_add, List.length_append]
        rfl
      -- on with the others
      have hsub : ∀ x, x ∈ K ++ rest → x ∈ K ++ o :: rest := fun x hx => by
        rcases List.mem_append.mp hx with g | g
        · exact List.mem_append_left _ g
        · exact List.mem_append_right _ (List.mem_cons_of_mem _ g)
      by_cases hfa : E.fal w o p = true
      · rw [if_pos hfa] at hb
        rcases hb with ⟨-, L2, hL2, r3, H3, q3, k3⟩ | ⟨c, -⟩
        · obtain ⟨d3, d4, d5⟩ := hWo m H r3 H3 o z hT hF h48 ho17 (a7 o ho17).2.1.1 (a7 o ho17).2.1.2 (by rw [a1, hz]) (by omega) (by omega) q3
          subst d3
          have hb := m_dra3 d4 hL2 (pn_ret k3)
          have v3 : ∀ a b, a ≠ 559 → a ≠ 569 → gI H3 a b = gI H a b := fun a b q1 q2 => by
            unfold gI
            rw [d5 a b q1 q2]
          have hF3 : mFr H0 H3 := fun a b hab => (d5 a b (by omega) (by omega)).trans (hF a b hab)
          have hA3 : mrA H3 (K ++ o :: rest, dr, fi, fb, wk, hu) := ⟨⟨(v3 _ _ (by omega) (by omega)).trans a1, fun i x hx => (v3 _ _ (by omega) (by omega)).trans (a2 i x hx)⟩, ⟨a3, a4⟩, a5, a6, a7.cg (fun a b q1 q2 => v3 _ _ (by omega) (by omega)), (v3 _ _ (by omega) (by omega)).trans a8, (v3 _ _ (by omega) (by omega)).trans a9, (v3 _ _ (by omega) (by omega)).trans a10⟩
          have h483 : gI H3 78 48 = gI H0 78 48 := (v3 _ _ (by omega) (by omega)).trans h48
          -- one falls: x
          have fallA : ∀ (x y : Nat) (H4 : mjH) (fi fb : Nat → Int) (l : List Nat), x < 17 → fi x = -1 → HT H4 → mrP H4 (l, dr, fi, fb, wk, hu) → gI H4 78 45 = Int32.ofInt (cF (l, dr, fi, fb, wk, hu)) → gI H4 78 46 = Int32.ofInt (cK (l, dr, fi, fb, wk, hu)) → gI H4 78 47 = Int32.ofInt (cH (l, dr, fi, fb, wk, hu)) →
              mrP (pV (pV (pV H4 563 x (.int (Int32.ofInt (w : Int)))) 564 x (.int (Int32.ofInt (y : Int)))) 78 45 (.int (gI H4 78 45 + Int32.ofInt 1))) (l, dr, yU fi x w, yU fb x y, wk, hu) ∧ gI (pV (pV (pV H4 563 x (.int (Int32.ofInt (w : Int)))) 564 x (.int (Int32.ofInt (y : Int)))) 78 45 (.int (gI H4 78 45 + Int32.ofInt 1))) 78 45 = Int32.ofInt (cF (l, dr, yU fi x w, yU fb x y, wk, hu)) ∧ gI (pV (pV (pV H4 563 x (.int (Int32.ofInt (w : Int)))) 564 x (.int (Int32.ofInt (y : Int)))) 78 45 (.int (gI H4 78 45 + Int32.ofInt 1))) 78 46 = Int32.ofInt (cK (l, dr, yU fi x w, yU fb x y, wk, hu)) ∧ gI (pV (pV (pV H4 563 x (.int (Int32.ofInt (w : Int)))) 564 x (.int (Int32.ofInt (y : Int)))) 78 45 (.int (gI H4 78 45 + Int32.ofInt 1))) 78 47 = Int32.ofInt (cH (l, dr, yU fi x w, yU fb x y, wk, hu)) := by
            intro x y H4 fi fb l hx hfx hT4 hP4 c1 c2 c3
            have tt := HT.pI (j := x) (x := Int32.ofInt (y : Int)) (HT.pI (j := x) (x := Int32.ofInt (w : Int)) hT4 kA_563_100_17_false) kA_564_100_17_false
            refine ⟨mrP.drop (s := (l, dr, fi, fb, wk, hu)) hT4 hP4 hx hw, ?_, ?_, ?_⟩
            · rw [gI_fat tt kF_78_45_9_false, c1, zz_add]
              exact congrArg Int32.ofInt (cF_drop (s := (l, dr, fi, fb, wk, hu)) hx hfx).symm
            · rw [gI_ne (by omega), gI_ne (by omega), gI_ne (by omega), c2]
              exact congrArg Int32.ofInt (cK_drop (s := (l, dr, fi, fb, wk, hu)) hfx).symm
            · rw [gI_ne (by omega), gI_ne (by omega), gI_ne (by omega)]
              exact c3
          -- o falls and leaves
          have goes : ∀ (H4 : mjH) (fi fb : Nat → Int) (L4 : mjL), HT H4 → mFr H0 H4 → gI H4 78 48 = gI H0 78 48 → gI H4 78 44 = Int32.ofInt ((K ++ o :: rest).length : Int) → (∀ (i x : Nat), (K ++ o :: rest)[i]? = some x → gI H4 561 i = Int32.ofInt (x : Int)) → fi o = -1 → mrP H4 (K ++ o :: rest, dr, fi, fb, wk, hu) → gI H4 78 45 = Int32.ofInt (cF (K ++ o :: rest, dr, fi, fb, wk, hu)) → gI H4 78 46 = Int32.ofInt (cK (K ++ o :: rest, dr, fi, fb, wk, hu)) → gI H4 78 47 = Int32.ofInt (cH (K ++ o :: rest, dr, fi, fb, wk, hu)) → (∀ x, x ∈ K ++ rest → fi x = -1 ∧ fb x = -1) →
              LG L4 [(0, .ref 78), (1, .int (Int32.ofInt (p : Int))), (2, .int (Int32.ofInt (w : Int))), (3, .int (Int32.ofInt (K.length : Int)))] → ∀ (r5 : Option Value ⊕ Nat) (H5 : mjH), Pn none m 265 0 [(0, .ref 78), (1, .int (Int32.ofInt (o : Int))), (2, .int (Int32.ofInt (p : Int))), (3, .int (Int32.ofInt (w : Int)))] [] H4 r5 H5 → ((∃ v, r5 = .inl v ∧ Pn none m 266 123 L4 (v.toList ++ []) H5 r H') ∨ (∃ E, r5 = .inr E ∧ r = .inr E ∧ H' = H5)) →
              ∃ (L6 : mjL) (H6 : mjH), LG L6 [(0, .ref 78), (1, .int (Int32.ofInt (p : Int))), (2, .int (Int32.ofInt (w : Int))), (3, .int (Int32.ofInt (K.length : Int)))] ∧ HT H6 ∧ mFr H0 H6 ∧ gI H6 78 48 = gI H0 78 48 ∧ mrA H6 (K ++ rest, dr, yU fi o w, yU fb o p, wk, hu) ∧ Pn none m 266 36 L6 [] H6 r H' := by
            intro H4 fi fb L4 hT4 hF4 h484 c44 cel hfo hP4 c1 c2 c3 hin hL4 r5 H5 q5 k5
            obtain ⟨u1, u2⟩ := pm_drop (p := o) (o := p) (w := w) hT4 ho17 q5
            subst u1
            obtain ⟨p1, p2, p3, p4⟩ := fallA o p H4 fi fb (K ++ o :: rest) ho17 hfo hT4 hP4 c1 c2 c3
            have T5 := dropT (p := o) (w := w) (o := p) (x := gI H4 78 45 + Int32.ofInt 1) hT4
            rw [← u2] at p1 p2 p3 p4 T5
            have n5 : ∀ a b, ¬ (a = 563 ∨ a = 564) → ¬ (a = 78 ∧ b = 45) → gI H5 a b = gI H4 a b := fun a b q1 q2 => by rw [u2, gI_ne (by omega), gI_ne (by omega), gI_ne (by omega)]
            have hF5 : mFr H0 H5 := by
              rw [u2]
              exact hF4.drop
            obtain ⟨L5, hL5, r6, H6, q6, k6⟩ := m_dra5 T5 (show LG L4 [(0, .ref 78), (1, .int (Int32.ofInt (p : Int))), (2, .int (Int32.ofInt (w : Int))), (3, .int (Int32.ofInt (K.length : Int)))] from hL4) (pn_ret k5)
            obtain ⟨y1, y2, y3, y4, y5⟩ := pm_lea (l := K ++ o :: rest) (k := K.length) (by omega) a3 T5 (by rw [n5 _ _ (by omega) (by omega)]; exact c44) (fun i x hx => by rw [n5 _ _ (by omega) (by omega)]; exact cel i x hx) q6
            subst y1
            rw [eraseMid] at y4 y5
            obtain ⟨L6, hL6, h6⟩ := m_dra6 y2 hL5 (pn_ret k6)
            have n6 : ∀ a b, a ≠ 561 → ¬ (a = 78 ∧ b = 44) → gI H6 a b = gI H5 a b := fun a b q1 q2 => by
              unfold gI
              rw [y3 a b q1 q2]
            refine ⟨L6, H6, hL6, y2, fun a b hab => (y3 a b (by omega) (by omega)).trans (hF5 a b hab), by rw [n6 _ _ (by omega) (by omega), n5 _ _ (by omega) (by omega)]; exact h484, ⟨⟨y4, y5⟩, ⟨?_, fun x hx => a4 x (hsub x hx)⟩, List.Sublist.nodup (List.Sublist.append (List.Sublist.refl K) (List.sublist_cons_self o rest)) a5, fun x hx => ?_, mrP.cg (s := (K ++ rest, dr, yU fi o w, yU fb o p, wk, hu)) p1 (fun a b q1 q2 => n6 _ _ (by omega) (by omega)), ?_, ?_, ?_⟩, h6⟩
            · show (K ++ rest).length ≤ 17
              rw [List.length_append]
              omega
            · have hx : x ∈ K ++ rest := hx
              have hxo : x ≠ o := fun g => by
                rw [g] at hx
                rcases List.mem_append.mp hx with g2 | g2
                · exact hoK g2
                · exact hor g2
              exact ⟨(yU_ne hxo).trans (hin x hx).1, (yU_ne hxo).trans (hin x hx).2⟩
            · rw [n6 _ _ (by omega) (by omega)]
              exact p2
            · rw [n6 _ _ (by omega) (by omega)]
              exact p3
            · rw [n6 _ _ (by omega) (by omega)]
              exact p4
          -- p has fallen: the end
          have ends : ∀ (fi fb : Nat → Int) (l : List Nat) (i : Nat) (L6 : mjL) (H6 : mjH), fi p ≠ -1 → (-1 ≤ fi p ∧ fi p ≤ 51) → HT H6 → mFr H0 H6 → gI H6 78 48 = gI H0 78 48 → mrA H6 (l, dr, fi, fb, wk, hu) → i ≤ 17 → LG L6 [(0, .ref 78), (1, .int (Int32.ofInt (p : Int))), (2, .int (Int32.ofInt (w : Int))), (3, .int (Int32.ofInt (i : Int)))] → Pn none m 266 36 L6 [] H6 r H' → r = .inl none ∧ HT H' ∧ mFr H0 H' ∧ gI H' 78 48 = gI H0 78 48 ∧ mrA H' (l, dr, fi, fb, wk, hu) := by
            intro fi fb l i L6 H6 hfp hrg hT6 hF6 h486 hA6 hi hL6 h6
            have e6 : gI H6 563 p = Int32.ofInt (fi p) := (hA6.2.2.2.2.1 p hp).1.2.1
            have e7 : ¬ gI H6 563 p = Int32.ofInt (-1) := by
              rw [e6, zz_eq]
              exact hfp
            cases m with
            | zero => exact Pn0 h6
            | succ m =>
              have hb := m_draL hT6 hL6 h6
              rw [zz_cn (n := p)] at hb
              rcases hb with ⟨-, -, ⟨c, -⟩ | ⟨-, e1, e2⟩⟩ | ⟨-, -, ⟨-, ⟨c, -⟩ | ⟨-, e1, e2⟩⟩ | ⟨c, -⟩⟩
              · exact absurd c e7
              · rw [e2]
                exact ⟨e1, hT6, hF6, h486, hA6⟩
              · exact absurd c e7
              · rw [e2]
                exact ⟨e1, hT6, hF6, h486, hA6⟩
              · exact absurd e7 c
          have hfo := a6 o hom
          rcases hWr o (wk o) (hu o) z with e | e | e
          · rw [e] at hb
            rcases hb with ⟨c, -⟩ | ⟨-, L4, hL4, r5, H5, q5, k5⟩
            · rw [zz_eq] at c
              omega
            obtain ⟨u1, u2⟩ := pm_drop (p := p) (o := o) (w := w) d4 hp q5
            subst u1
            obtain ⟨b1, ⟨b2, b3⟩, b5, b4, b6, b7, b8, b9⟩ := hA3
            obtain ⟨p1, p2, p3, p4⟩ := fallA p o H3 fi fb (K ++ o :: rest) hp hfp d4 b6 b7 b8 b9
            have T5 := dropT (p := p) (w := w) (o := o) (x := gI H3 78 45 + Int32.ofInt 1) d4
            have hF5 : mFr H0 H5 := by
              rw [u2]
              exact hF3.drop
            rw [← u2] at p1 p2 p3 p4 T5
            have n5 : ∀ a b, ¬ (a = 563 ∨ a = 564) → ¬ (a = 78 ∧ b = 45) → gI H5 a b = gI H3 a b := fun a b q1 q2 => by rw [u2, gI_ne (by omega), gI_ne (by omega), gI_ne (by omega)]
            have hb := m_dra4 T5 hL4 (pn_ret k5)
            rcases hb with ⟨-, L5, hL5, r6, H6, q6, k6⟩ | ⟨c, -⟩
            · obtain ⟨L7, H7, hL7, T7, F7, h487, A7, h7⟩ := goes H5 (yU fi p w) (yU fb p o) L5 T5 hF5 (by rw [n5 _ _ (by omega) (by omega)]; exact h483) (by rw [n5 _ _ (by omega) (by omega)]; exact b1.1) (fun i x hx => by rw [n5 _ _ (by omega) (by omega)]; exact b1.2 i x hx) ((yU_ne hop).trans hfo.1) p1 p2 p3 p4 (fun x hx => by
                have hxp : x ≠ p := fun g => hpn (by rw [← g]; exact hsub x hx)
                exact ⟨(yU_ne hxp).trans (a6 x (hsub x hx)).1, (yU_ne hxp).trans (a6 x (hsub x hx)).2⟩) hL5 r6 H6 q6 k6
              rw [yrM_0 hfa e, yrM_no]
              have e9 : yU (yU fi p w) o w p = (w : Int) := by rw [yU_ne (Ne.symm hop), yU_at]
              have fin := ends (yU (yU fi p w) o w) (yU (yU fb p o) o p) (K ++ rest) K.length L7 H7 (by rw [e9]; omega) (by rw [e9]; omega) T7 F7 h487 A7 (by omega) hL7 h7
              rw [if_neg (show ¬ (false : Bool) = true by decide)]
              exact fin
            · exact absurd (by rw [zz_eq]; omega) c
          · rw [e] at hb
            rcases hb with ⟨c, -⟩ | ⟨-, L4, hL4, r5, H5, q5, k5⟩
            · rw [zz_eq] at c
              omega
            obtain ⟨u1, u2⟩ := pm_drop (p := p) (o := o) (w := w) d4 hp q5
            subst u1
            obtain ⟨b1, ⟨b2, b3⟩, b5, b4, b6, b7, b8, b9⟩ := hA3
            obtain ⟨p1, p2, p3, p4⟩ := fallA p o H3 fi fb (K ++ o :: rest) hp hfp d4 b6 b7 b8 b9
            have T5 := dropT (p := p) (w := w) (o := o) (x := gI H3 78 45 + Int32.ofInt 1) d4
            have hF5 : mFr H0 H5 := by
              rw [u2]
              exact hF3.drop
            rw [← u2] at p1 p2 p3 p4 T5
            have n5 : ∀ a b, ¬ (a = 563 ∨ a = 564) → ¬ (a = 78 ∧ b = 45) → gI H5 a b = gI H3 a b := fun a b q1 q2 => by rw [u2, gI_ne (by omega), gI_ne (by omega), gI_ne (by omega)]
            have hb := m_dra4 T5 hL4 (pn_ret k5)
            rcases hb with ⟨c, -⟩ | ⟨-, L5, hL5, h5⟩
            · exact absurd rfl c
            rw [hs] at hL5
            rw [yrM_1 hfa e]
            have e9 : yU fi p w p = (w : Int) := yU_at
            have fin := ends (yU fi p w) (yU fb p o) (K ++ o :: rest) (K ++ [o]).length L5 H5 (by rw [e9]; omega) (by rw [e9]; omega) T5 hF5 (by rw [n5 _ _ (by omega) (by omega)]; exact h483) ⟨⟨(n5 _ _ (by omega) (by omega)).trans b1.1, fun i x hx => (n5 _ _ (by omega) (by omega)).trans (b1.2 i x hx)⟩, ⟨b2, b3⟩, b5, fun x hx => by
                have hxp : x ≠ p := fun g => hpn (by rw [← g]; exact hx)
                exact ⟨(yU_ne hxp).trans (a6 x hx).1, (yU_ne hxp).trans (a6 x hx).2⟩, p1, p2, p3, p4⟩ (by rw [List.length_append, List.length_singleton]; omega) hL5 h5
            rw [if_neg (show ¬ (false : Bool) = true by decide)]
            exact fin
          · rw [e] at hb
            rcases hb with ⟨-, ⟨-, L4, hL4, r5, H5, q5, k5⟩ | ⟨c, -⟩⟩ | ⟨c, -⟩
            · obtain ⟨b1, ⟨b2, b3⟩, b5, b4, b6, b7, b8, b9⟩ := hA3
              obtain ⟨L7, H7, hL7, T7, F7, h487, A7, h7⟩ := goes H3 fi fb L4 d4 hF3 h483 b1.1 b1.2 hfo.1 b6 b7 b8 b9 (fun x hx => a6 x (hsub x hx)) hL4 r5 H5 q5 k5
              rw [yrM_2 hfa e]
              exact pm_draL hw hp hE hWo hWr m rest K (z - 1) (yU fi o w) (yU fb o p) L7 H7 T7 F7 h487 A7 (fun g => hpn (hsub p g)) (by rw [List.length_append]; omega) ((yU_ne (Ne.symm hop)).trans hfp) ((yU_ne (Ne.symm hop)).trans hbp) (by rw [hz, hlen, List.length_append, hl2]; omega) hL7 h7
            · exact absurd (by rw [zz_eq]; omega) c
            · exact absurd rfl c
        · exact absurd (by rw [zz_eq]; omega) c
      · rw [if_neg hfa] at hb
        rcases hb with ⟨c, -⟩ | ⟨-, L2, hL2, h3⟩
        · exact absurd rfl c
        rw [hs] at hL2
        have hfa2 : E.fal w o p = false := by
          cases g : E.fal w o p with
          | false => rfl
          | true => exact absurd g hfa
        have e0 : K ++ o :: rest = (K ++ [o]) ++ rest := by rw [List.append_assoc]; rfl
        rw [yrM_k hfa2]
        have ih := pm_draL hw hp hE hWo hWr m rest (K ++ [o]) z fi fb L2 H hT hF h48 (by rw [← e0]; exact hA) (by rw [← e0]; exact hpn) (by rw [← e0]; exact hl17) hfp hbp (by rw [← e0]; exact hz) hL2 h3
        rw [List.append_assoc] at ih
        have e1 : (if (yrM E wk hu w p rest true z fi fb).2.1 = true then o :: (yrM E wk hu w p rest true z fi fb).1 ++ [p] else o :: (yrM E wk hu w p rest true z fi fb).1) = [o] ++ (if (yrM E wk hu w p rest true z fi fb).2.1 = true then (yrM E wk hu w p rest true z fi fb).1 ++ [p] else (yrM E wk hu w p rest true z fi fb).1) := by
          split <;> rfl
        show r = .inl none ∧ HT H' ∧ mFr H0 H' ∧ gI H' 78 48 = gI H0 78 48 ∧ mrA H' (K ++ (if (yrM E wk hu w p rest true z fi fb).2.1 = true then o :: (yrM E wk hu w p rest true z fi fb).1 ++ [p] else o :: (yrM E wk hu w p rest true z fi fb).1), dr, (yrM E wk hu w p rest true z fi fb).2.2.1, (yrM E wk hu w p rest true z fi fb).2.2.2, wk, hu)
        rw [e1]
        exact ih
end PCMD

/-! PC: the class's year: chairs, draws, deaths -/
section PCYC
variable {m : Nat} {L : mjL} {H H' H1 : mjH} {r : Option Value ⊕ Nat} {J Y Q : Nat} {E : yE} {s : yC} {p w : Nat}
theorem Pn0 {sc : Option (List Int32)} {k pc : Nat} {S : List Value} {P : Prop} (h : Pn sc 0 k pc L S H r H') : P := by
  obtain ⟨f, d, c, s, hf, -⟩ := h
  omega
/-- the weeks in which pieces are dead, as the class has them -/
def jDead (H : mjH) (J : Nat) (E : yE) : Prop := ∀ w p : Nat, w < 52 → p < 17 → bt (gI H (J + 6) w) p = E.dead w p
theorem pc_dwL (hT : HT H) (hJ : J = 3 ∨ J = 11) (hE : jDead H J E) (hp : p < 17) : ∀ (m w : Nat) (L : mjL), w ≤ 52 → yDn E p w = 52 → LG L [(0, .ref J), (1, .int (Int32.ofInt (p : Int))), (2, .int (Int32.ofInt (w : Int)))] → Pn none m 22 2 L [] H r H' → r = .inl (some (.int (Int32.ofInt (yDw E p)))) ∧ H' = H
  | 0, _, _, _, _, _, h => Pn0 h
  | m + 1, w, L, hw, hd, hL, h => by
    rcases b_dwL hT hJ hL h with ⟨c, e⟩ | ⟨c, -, ⟨c2, L', hL', h'⟩ | ⟨c2, e⟩⟩
    · rw [zz_le] at c
      have e1 : w = 52 := by omega
      subst e1
      rw [show yDw E p = 52 from hd]
      exact e
    · rw [zz_le] at c
      have hw2 : w < 52 := by omega
      rw [zz_cn, bz_tst (by omega), hE w p hw2 hp] at c2
      rw [show Int32.ofInt (w : Int) + Int32.ofInt 1 = Int32.ofInt ((w + 1 : Nat) : Int) from zz_add _ _] at hL'
      refine pc_dwL hT hJ hE hp m (w + 1) L' (by omega) ?_ hL' h'
      show (if yDn E p w = 52 then (if E.dead w p = true then (w : Int) else 52) else yDn E p w) = 52
      rw [if_pos hd, c2]
      rfl
    · rw [zz_le] at c
      have hw2 : w < 52 := by omega
      rw [zz_cn, bz_tst (by omega), hE w p hw2 hp] at c2
      have e1 : yDw E p = (w : Int) := by
        have e2 : yDn E p (w + 1) = (w : Int) := by
          show (if yDn E p w = 52 then (if E.dead w p = true then (w : Int) else 52) else yDn E p w) = (w : Int)
          rw [if_pos hd, if_pos (by cases hc : E.dead w p with | true => rfl | false => exact absurd hc c2)]
        have e3 := yDn_up e2 (by omega) (52 - (w + 1))
        rw [show w + 1 + (52 - (w + 1)) = 52 by omega] at e3
        exact e3
      rw [e1]
      exact e
theorem pc_dw (hT : HT H) (hJ : J = 3 ∨ J = 11) (hE : jDead H J E) (hp : p < 17) (h : Pn none m 22 0 [(0, .ref J), (1, .int (Int32.ofInt (p : Int)))] [] H r H') : r = .inl (some (.int (Int32.ofInt (yDw E p)))) ∧ H' = H := by
  obtain ⟨L', hL, h⟩ := b_dw0 hT hJ ⟨rfl, rfl, trivial⟩ h
  exact pc_dwL hT hJ hE hp m 0 L' (by omega) rfl hL h
/-- what the arrays tell of pieces -/
def ycP (H : mjH) (Y : Nat) (bg en fo : Nat → Int) : Prop := ∀ p, p < 17 → gI H (Y + 1) p = Int32.ofInt (bg p) ∧ gI H (Y + 2) p = Int32.ofInt (en p) ∧ gI H (Y + 3) p = Int32.ofInt (fo p) ∧ (bg p ≠ -1 → gI H (Y + 4) p = Int32.ofInt (if en p < 52 ∧ fo p = -1 then 1 else 0)) ∧ ((-1 ≤ bg p ∧ bg p ≤ 51) ∧ 0 ≤ en p ∧ en p ≤ 52)
/-- the class's arrays stand for this state -/
def ycA (H : mjH) (Y : Nat) (s : yC) : Prop := gI H Y 10 = Int32.ofInt (s.ch.length : Int) ∧ (∀ (i x : Nat), s.ch[i]? = some x → gI H (Y + 5) i = Int32.ofInt (x : Int)) ∧ (s.ch.length ≤ 17 ∧ ∀ x, x ∈ s.ch → x < 17) ∧ s.ch.Nodup ∧ (∀ p, p < 32 → bt (gI H Y 11) p = decide (p ∈ s.ch)) ∧ (∀ x, x ∈ s.ch → s.fo x = -1) ∧ ycP H Y s.bg s.en s.fo
/-- nothing but the year's own places has changed -/
def yFr (Y : Nat) (H H' : mjH) : Prop := ∀ a b, ¬ ((Y ≤ a ∧ a ≤ Y + 5 ∧ (a = Y → 8 ≤ b)) ∨ (a = 21 ∨ a = 22 ∨ a = 25 ∨ a = 26)) → sxEl H' a b = sxEl H a b
theorem yFr.rf : yFr Y H H := fun _ _ _ => rfl
theorem yFr.tr {H2 : mjH} (h1 : yFr Y H H1) (h2 : yFr Y H1 H2) : yFr Y H H2 := fun a b h => (h2 a b h).trans (h1 a b h)
theorem yFr.put {a b : Nat} {v : Value} (h : yFr Y H H1) (hab : (Y ≤ a ∧ a ≤ Y + 5 ∧ (a = Y → 8 ≤ b)) ∨ (a = 21 ∨ a = 22 ∨ a = 25 ∨ a = 26)) : yFr Y H (pV H1 a b v) := fun c d hcd => by
  rw [sxEl_ne (fun e => hcd (by rw [e.1, e.2]; exact hab))]
  exact h c d hcd
theorem yFr.vI {a b : Nat} (h : yFr Y H H1) (hab : ¬ ((Y ≤ a ∧ a ≤ Y + 5 ∧ (a = Y → 8 ≤ b)) ∨ (a = 21 ∨ a = 22 ∨ a = 25 ∨ a = 26))) : gI H1 a b = gI H a b := by
  unfold gI
  rw [h a b hab]
theorem yFr.vL {a b : Nat} (h : yFr Y H H1) (hab : ¬ ((Y ≤ a ∧ a ≤ Y + 5 ∧ (a = Y → 8 ≤ b)) ∨ (a = 21 ∨ a = 22 ∨ a = 25 ∨ a = 26))) : gL H1 a b = gL H a b := by
  unfold gL
  rw [h a b hab]
theorem yFr.vR {a b : Nat} (h : yFr Y H H1) (hab : ¬ ((Y ≤ a ∧ a ≤ Y + 5 ∧ (a = Y → 8 ≤ b)) ∨ (a = 21 ∨ a = 22 ∨ a = 25 ∨ a = 26))) : gR H1 a b = gR H a b := by
  unfold gR
  rw [h a b hab]
theorem yFr.dead (hJ : J = 3 ∨ J = 11) (hY : Y = 32 ∨ Y = 38) (h : yFr Y H H1) (hE : jDead H J E) : jDead H1 J E := fun w p hw hp => by
  rw [h.vI (by omega)]
  exact hE w p hw hp
theorem pc_seat (hT : HT H) (hY : Y = 32 ∨ Y = 38) (hA : ycA H Y s) (hp : p < 17) (hn : ¬ p ∈ s.ch) (hl : s.ch.length < 17) (h : Pn none m 4 0 [(0, .ref Y), (1, .int (Int32.ofInt (p : Int)))] [] H r H') :
    r = .inl none ∧ HT H' ∧ yFr Y H H' ∧ ycA H' Y (s.ch ++ [p], s.bg, yU s.en p 52, yU s.fo p (-1)) := by
  obtain ⟨a1, a2, ⟨a3, a4⟩, a5, a6, a8, a7⟩ := hA
  have hb := b_seat hT hY ⟨rfl, rfl, trivial⟩ h
  rw [a1, zz_cn] at hb
  obtain ⟨-, ⟨c, -⟩ | ⟨-, -, e1, e2⟩⟩ := hb
  · rw [zz_le] at c
    omega
  rw [zz_cn] at e2
  have t1 := HT.pI (j := p) (x := Int32.ofInt 52) hT (kA_Y_2_100_17_false hY)
  have t2 := HT.pI (j := p) (x := Int32.ofInt (-1)) t1 (kA_Y_3_100_17_false hY)
  have t3 := HT.pI (j := p) (x := Int32.ofInt 0) t2 (kA_Y_4_103_17_false hY)
  have t4 := HT.pI (j := s.ch.length) (x := Int32.ofInt (p : Int)) t3 (kA_Y_5_100_17_false hY)
  have t5 := HT.pFI (x := Int32.ofInt (s.ch.length : Int) + Int32.ofInt 1) t4 (kF_Y_10_0_false hY)
  have t6 := HT.pFI (x := gI H Y 11 ||| (Int32.ofInt 1 <<< (Int32.ofInt (p : Int) &&& 31))) t5 (kF_Y_11_0_false hY)
  rw [← e2] at t6
  refine ⟨e1, t6, ?_, ?_⟩
  · rw [e2]
    exact (((((yFr.rf.put (by omega)).put (by omega)).put (by omega)).put (by omega)).put (by omega)).put (by omega)
  · refine ⟨?_, fun i x hi => ?_, ⟨by rw [List.length_append]; exact hl, fun x hx => ?_⟩, yNd a5 hn, fun q hq => ?_, fun x hx => ?_, fun q hq => ?_⟩
    · rw [e2, gI_ne (by omega), gI_fat t4 (kF_Y_10_0_false hY), zz_add]
      exact congrArg Int32.ofInt (by rw [List.length_append]; rfl)
    · rw [e2, gI_ne (by omega), gI_ne (by omega)]
      rcases Nat.lt_or_ge i s.ch.length with g | g
      · rw [gI_ne (by omega), gI_ne (by omega), gI_ne (by omega), gI_ne (by omega)]
        rw [List.getElem?_append_left g] at hi
        exact a2 i x hi
      · rw [List.getElem?_append_right g] at hi
        have e0 : i - s.ch.length = 0 := by
          have := (List.getElem?_eq_some_iff.mp hi).1
          simp only [List.length_singleton] at this
          omega
        rw [e0] at hi
        cases hi
        rw [show i = s.ch.length by omega, gI_at t3 (kA_Y_5_100_17_false hY) hl]
    · rcases List.mem_append.mp hx with g | g
      · exact a4 x g
      · rw [List.mem_singleton.mp g]
        exact hp
    · rw [e2, gI_fat t5 (kF_Y_11_0_false hY), bz_set (by omega) hq, a6 q hq]
      show _ = decide (q ∈ s.ch ++ [p])
      by_cases g : q = p
      · subst g
        simp
      · rw [decide_eq_false g, Bool.or_false]
        exact decide_eq_decide.mpr (by simp [g])
    · show yU s.fo p (-1) x = -1
      by_cases g : x = p
      · rw [g, yU_at]
      · rw [yU_ne g]
        rcases List.mem_append.mp hx with g2 | g2
        · exact a8 x g2
        · exact absurd (List.mem_singleton.mp g2) g
    · obtain ⟨b1, b2, b3, b4, b5⟩ := a7 q hq
      have i1 : gI H' (Y + 1) q = Int32.ofInt (s.bg q) := by
        rw [e2, gI_ne (by omega), gI_ne (by omega), gI_ne (by omega), gI_ne (by omega), gI_ne (by omega), gI_ne (by omega)]
        exact b1
      by_cases g : q = p
      · subst g
        refine ⟨i1, ?_, ?_, fun _ => ?_, ?_⟩
        · show _ = Int32.ofInt (yU s.en q 52 q)
          rw [yU_at, e2, gI_ne (by omega), gI_ne (by omega), gI_ne (by omega), gI_ne (by omega), gI_ne (by omega), gI_at hT (kA_Y_2_100_17_false hY) hq]
        · show _ = Int32.ofInt (yU s.fo q (-1) q)
          rw [yU_at, e2, gI_ne (by omega), gI_ne (by omega), gI_ne (by omega), gI_ne (by omega), gI_at t1 (kA_Y_3_100_17_false hY) hq]
        · show _ = Int32.ofInt (if yU s.en q 52 q < 52 ∧ yU s.fo q (-1) q = -1 then 1 else 0)
          rw [yU_at, if_neg (by omega), e2, gI_ne (by omega), gI_ne (by omega), gI_ne (by omega), gI_at t2 (kA_Y_4_103_17_false hY) hq]
        · show (-1 ≤ s.bg q ∧ s.bg q ≤ 51) ∧ 0 ≤ yU s.en q 52 q ∧ yU s.en q 52 q ≤ 52
          rw [yU_at]
          exact ⟨b5.1, by omega, by omega⟩
      · refine ⟨i1, ?_, ?_, fun hb => ?_, ?_⟩
        · show _ = Int32.ofInt (yU s.en p 52 q)
          rw [yU_ne g, e2, gI_ne (by omega), gI_ne (by omega), gI_ne (by omega), gI_ne (by omega), gI_ne (by omega), gI_ne (by omega)]
          exact b2
        · show _ = Int32.ofInt (yU s.fo p (-1) q)
          rw [yU_ne g, e2, gI_ne (by omega), gI_ne (by omega), gI_ne (by omega), gI_ne (by omega), gI_ne (by omega), gI_ne (by omega)]
          exact b3
        · show _ = Int32.ofInt (if yU s.en p 52 q < 52 ∧ yU s.fo p (-1) q = -1 then 1 else 0)
          rw [yU_ne g, yU_ne g, e2, gI_ne (by omega), gI_ne (by omega), gI_ne (by omega), gI_ne (by omega), gI_ne (by omega), gI_ne (by omega)]
          exact b4 hb
        · show (-1 ≤ s.bg q ∧ s.bg q ≤ 51) ∧ 0 ≤ yU s.en p 52 q ∧ yU s.en p 52 q ≤ 52
          rw [yU_ne g]
          exact b5
theorem yDw_lt {w : Nat} (hw : w < 52) (h : E.dead w p = true) : 0 ≤ yDw E p ∧ yDw E p < 52 := by
  have key : ∀ n, (yDn E p n = 52 ∧ ∀ v, v < n → E.dead v p = false) ∨ (0 ≤ yDn E p n ∧ yDn E p n < n) := by
    intro n
    induction n with
    | zero => exact Or.inl ⟨rfl, fun v hv => absurd hv (Nat.not_lt_zero v)⟩
    | succ n ih =>
      have e : yDn E p (n + 1) = if yDn E p n = 52 then (if E.dead n p = true then (n : Int) else 52) else yDn E p n := rfl
      by_cases h0 : yDn E p n = 52
      · by_cases h1 : E.dead n p = true
        · rw [if_pos h0, if_pos h1] at e
          exact Or.inr ⟨by omega, by omega⟩
        · rw [if_pos h0, if_neg h1] at e
          rcases ih with ⟨i1, i2⟩ | ⟨i1, i2⟩
          · refine Or.inl ⟨e, fun v hv => ?_⟩
            rcases Nat.lt_or_ge v n with g | g
            · exact i2 v g
            · rw [show v = n by omega]
              cases h2 : E.dead n p with
              | false => rfl
              | true => exact absurd h2 h1
          · refine Or.inr ?_
            rw [e]
            omega
      · rw [if_neg h0] at e
        rcases ih with ⟨i1, -⟩ | ⟨i1, i2⟩
        · exact absurd i1 h0
        · refine Or.inr ?_
          rw [e]
          omega
  unfold yDw
  rcases key 52 with ⟨-, k2⟩ | k
  · rw [k2 w hw] at h
    cases h
  · omega
/-- so far as a burial has gone -/
def yBI (H : mjH) (Y : Nat) (E : yE) (w : Nat) (s : yC) (i : Nat) : Prop := gI H Y 10 = Int32.ofInt (s.ch.length : Int) ∧ (∀ (j x : Nat), ((s.ch.take i).filter (fun x => !E.dead w x))[j]? = some x → gI H (Y + 5) j = Int32.ofInt (x : Int)) ∧ (∀ (j x : Nat), i ≤ j → s.ch[j]? = some x → gI H (Y + 5) j = Int32.ofInt (x : Int)) ∧
  (∀ p, p < 32 → bt (gI H Y 11) p = (decide (p ∈ s.ch) && !(decide (p ∈ s.ch.take i) && E.dead w p))) ∧
  ycP H Y s.bg (fun p => if p ∈ s.ch.take i ∧ E.dead w p = true then yDw E p else s.en p) s.fo
theorem pc_buryL {H0 : mjH} (hY : Y = 32 ∨ Y = 38) (hJ : J = 3 ∨ J = 11) (hj : gR H0 Y 0 = J) (hE : jDead H0 J E) (hw : w < 52) (b1 : s.ch.length ≤ 17) (b2 : ∀ x, x ∈ s.ch → x < 17) (b3 : s.ch.Nodup) (b4 : ∀ x, x ∈ s.ch → s.fo x = -1) : ∀ (m i : Nat) (L : mjL) (H : mjH), i ≤ s.ch.length → HT H → yFr Y H0 H → yBI H Y E w s i → LG L [(0, .ref Y), (1, .int (Int32.ofInt (w : Int))), (2, .int (Int32.ofInt (((s.ch.take i).filter (fun x => !E.dead w x)).length : Int))), (3, .int (Int32.ofInt (i : Int)))] →
    Pn none m 5 22 L [] H r H' → r = .inl none ∧ HT H' ∧ yFr Y H0 H' ∧ ycA H' Y (ycB E w s)
  | 0, _, _, _, _, _, _, _, _, h => Pn0 h
  | m + 1, i, L, H, hi, hT, hf, ⟨i1, i2, i3, i4, i5⟩, hL, h => by
    have hj1 : gR H Y 0 = J := (hf.vR (by omega)).trans hj
    have hE1 : jDead H J E := hf.dead hJ hY hE
    have hkl : ((s.ch.take i).filter (fun x => !E.dead w x)).length ≤ i := Nat.le_trans (List.length_filter_le _ _) (by rw [List.length_take]; omega)
    have hb := b_buryL hT hY hJ hj1 hL h
    rw [i1] at hb
    rcases hb with ⟨c, e1, e2⟩ | ⟨c, -, -, hb⟩
    · rw [zz_le] at c
      have e0 : i = s.ch.length := by omega
      subst e0
      rw [List.take_length] at i2 i4 i5 e2 hkl
      have t1 := HT.pFI (x := Int32.ofInt ((s.ch.filter (fun x => !E.dead w x)).length : Int)) hT (kF_Y_10_0_false hY)
      rw [← e2] at t1
      refine ⟨e1, t1, by rw [e2]; exact hf.put (by omega), ?_⟩
      have n1 : ∀ a b, ¬ (a = Y ∧ b = 10) → gI H' a b = gI H a b := fun a b hab => by rw [e2, gI_ne hab]
      refine ⟨?_, fun j x hj => ?_, ⟨Nat.le_trans hkl b1, fun x hx => b2 x ((List.mem_filter.mp hx).1)⟩, List.Pairwise.filter _ b3, fun q hq => ?_, fun x hx => b4 x ((List.mem_filter.mp hx).1), fun q hq => ?_⟩
      · rw [e2, gI_fat hT (kF_Y_10_0_false hY)]
        rfl
      · rw [n1 _ _ (by omega)]
        exact i2 j x hj
      · rw [n1 _ _ (by omega), i4 q hq]
        show _ = decide (q ∈ s.ch.filter (fun x => !E.dead w x))
        rw [Bool.eq_iff_iff]
        simp only [Bool.and_eq_true, Bool.not_eq_true', decide_eq_true_eq, List.mem_filter, Bool.and_eq_false_iff, decide_eq_false_iff_not]
        constructor
        · rintro ⟨g1, g2⟩
          exact ⟨g1, g2.resolve_left (fun g => g g1)⟩
        · rintro ⟨g1, g2⟩
          exact ⟨g1, Or.inr g2⟩
      · obtain ⟨k1, k2, k3, k4, k5⟩ := i5 q hq
        exact ⟨(n1 _ _ (by omega)).trans k1, (n1 _ _ (by omega)).trans k2, (n1 _ _ (by omega)).trans k3, fun g => (n1 _ _ (by omega)).trans (k4 g), k5⟩
    · rw [zz_le] at c
      have hi2 : i < s.ch.length := by omega
      have hx : s.ch[i]? = some s.ch[i] := List.getElem?_eq_getElem hi2
      generalize s.ch[i] = x at hx
      have hxm : x ∈ s.ch := List.mem_of_getElem? hx
      have hx17 := b2 x hxm
      have htk : s.ch.take (i + 1) = s.ch.take i ++ [x] := by
        rw [List.take_add_one, hx]
        rfl
      have hxt : ¬ x ∈ s.ch.take i := by
        intro g
        have h3 := b3
        rw [← List.take_append_drop (i + 1) s.ch, htk] at h3
        have h4 := (List.nodup_append.mp h3).1
        exact (List.nodup_append.mp h4).2.2 x g x List.mem_cons_self rfl
      have hmm : ∀ q, q ∈ s.ch.take (i + 1) ↔ q ∈ s.ch.take i ∨ q = x := by
        intro q
        rw [htk, List.mem_append, List.mem_singleton]
      rw [zz_cn (n := i), zz_cn (n := w), i3 i x (Nat.le_refl i) hx, bz_tst (by omega), hE1 w x hw hx17] at hb
      rcases hb with ⟨c2, -, L', hL', h'⟩ | ⟨c2, L', hL', r2, H2, q, k⟩
      · have hfl : (s.ch.take (i + 1)).filter (fun x => !E.dead w x) = (s.ch.take i).filter (fun x => !E.dead w x) ++ [x] := by
          rw [htk, List.filter_append]
          congr 1
          rw [List.filter_cons, if_pos (by rw [c2]; rfl)]
          rfl
        rw [zz_cn] at h'
        have n1 : ∀ a b, ¬ (a = Y + 5 ∧ b = ((s.ch.take i).filter (fun x => !E.dead w x)).length) → gI (pV H (Y + 5) ((s.ch.take i).filter (fun x => !E.dead w x)).length (.int (Int32.ofInt (x : Int)))) a b = gI H a b := fun a b hab => gI_ne hab
        refine pc_buryL hY hJ hj hE hw b1 b2 b3 b4 m (i + 1) L' _ hi2 (HT.pI hT (kA_Y_5_100_17_false hY)) (hf.put (by omega)) ⟨?_, fun j y hj => ?_, fun j y h1 hj => ?_, fun p hp => ?_, fun p hp => ?_⟩ ?_ h'
        · rw [n1 _ _ (by omega)]
          exact i1
        · rw [hfl] at hj
          rcases Nat.lt_or_ge j ((s.ch.take i).filter (fun x => !E.dead w x)).length with g | g
          · rw [List.getElem?_append_left g] at hj
            rw [n1 _ _ (by omega)]
            exact i2 j y hj
          · rw [List.getElem?_append_right g] at hj
            have h0 : j - ((s.ch.take i).filter (fun x => !E.dead w x)).length = 0 := by
              have := (List.getElem?_eq_some_iff.mp hj).1
              simp only [List.length_singleton] at this
              omega
            rw [h0] at hj
            cases hj
            rw [show j = ((s.ch.take i).filter (fun x => !E.dead w x)).length by omega, gI_at hT (kA_Y_5_100_17_false hY) (by omega)]
        · rw [n1 _ _ (by omega)]
          exact i3 j y (by omega) hj
        · rw [n1 _ _ (by omega), i4 p hp]
          by_cases g : p = x
          · subst g
            rw [c2, Bool.and_false, Bool.and_false]
          · have e : decide (p ∈ s.ch.take (i + 1)) = decide (p ∈ s.ch.take i) := decide_eq_decide.mpr (by rw [hmm]; exact ⟨fun z => z.resolve_right g, Or.inl⟩)
            rw [e]
        · have e : (p ∈ s.ch.take (i + 1) ∧ E.dead w p = true) ↔ (p ∈ s.ch.take i ∧ E.dead w p = true) := by
            rw [hmm]
            constructor
            · rintro ⟨z1 | z1, z2⟩
              · exact ⟨z1, z2⟩
              · rw [z1, c2] at z2
                cases z2
            · rintro ⟨z1, z2⟩
              exact ⟨Or.inl z1, z2⟩
          obtain ⟨k1, k2, k3, k4, k5⟩ := i5 p hp
          simp only [e]
          exact ⟨(n1 _ _ (by omega)).trans k1, (n1 _ _ (by omega)).trans k2, (n1 _ _ (by omega)).trans k3, fun g => (n1 _ _ (by omega)).trans (k4 g), k5⟩
        · obtain ⟨g0, g1, g2, g3, -⟩ := hL'
          refine ⟨g0, g1, ?_, ?_, trivial⟩
          · rw [g2, zz_add, hfl, List.length_append]
            rfl
          · rw [g3, zz_add]
            rfl
      · have c2 : E.dead w x = true := by
          cases z : E.dead w x with
          | true => rfl
          | false => exact absurd z c2
        obtain ⟨d1, d2⟩ := pc_dw hT hJ hE1 hx17 q
        subst d1 d2
        have h2 := pn_ret k
        obtain ⟨-, L2, hL2, h3⟩ := b_buryD hT hY hJ hj1 hL' h2
        rw [zz_cn] at h3
        have hfl : (s.ch.take (i + 1)).filter (fun x => !E.dead w x) = (s.ch.take i).filter (fun x => !E.dead w x) := by
          rw [htk, List.filter_append, List.filter_cons, if_neg (by rw [c2]; decide), List.filter_nil, List.append_nil]
        have t1 := HT.pI (j := x) (x := Int32.ofInt (yDw E x)) hT (kA_Y_2_100_17_false hY)
        have t2 := HT.pI (j := x) (x := Int32.ofInt 1) t1 (kA_Y_4_103_17_false hY)
        have hdw := yDw_lt hw c2
        refine pc_buryL hY hJ hj hE hw b1 b2 b3 b4 m (i + 1) L2 _ hi2 (HT.pFI t2 (kF_Y_11_0_false hY)) (((hf.put (by omega)).put (by omega)).put (by omega)) ⟨?_, fun j y hj => ?_, fun j y h1 hj => ?_, fun p hp => ?_, fun p hp => ?_⟩ ?_ h3
        · rw [gI_ne (by omega), gI_ne (by omega), gI_ne (by omega)]
          exact i1
        · rw [gI_ne (by omega), gI_ne (by omega), gI_ne (by omega)]
          rw [hfl] at hj
          exact i2 j y hj
        · rw [gI_ne (by omega), gI_ne (by omega), gI_ne (by omega)]
          exact i3 j y (by omega) hj
        · rw [gI_fat t2 (kF_Y_11_0_false hY), bz_clr (by omega) hp, i4 p hp]
          by_cases g : p = x
          · subst g
            rw [decide_eq_true rfl, Bool.not_true, Bool.and_false, decide_eq_true ((hmm p).mpr (Or.inr rfl)), c2]
            simp
          · have e : decide (p ∈ s.ch.take (i + 1)) = decide (p ∈ s.ch.take i) := decide_eq_decide.mpr (by rw [hmm]; exact ⟨fun z => z.resolve_right g, Or.inl⟩)
            rw [e, decide_eq_false g, Bool.not_false, Bool.and_true]
        · obtain ⟨k1, k2, k3, k4, k5⟩ := i5 p hp
          by_cases g : p = x
          · subst g
            have e : (p ∈ s.ch.take (i + 1) ∧ E.dead w p = true) := ⟨(hmm p).mpr (Or.inr rfl), c2⟩
            simp only [if_pos e]
            refine ⟨?_, ?_, ?_, fun _ => ?_, k5.1, by omega, by omega⟩
            · rw [gI_ne (by omega), gI_ne (by omega), gI_ne (by omega)]
              exact k1
            · rw [gI_ne (by omega), gI_ne (by omega), gI_at hT (kA_Y_2_100_17_false hY) hp]
            · rw [gI_ne (by omega), gI_ne (by omega), gI_ne (by omega)]
              exact k3
            · rw [gI_ne (by omega), gI_at t1 (kA_Y_4_103_17_false hY) hp, if_pos ⟨hdw.2, b4 p hxm⟩]
          · have e : (p ∈ s.ch.take (i + 1) ∧ E.dead w p = true) ↔ (p ∈ s.ch.take i ∧ E.dead w p = true) := by
              rw [hmm]
              exact ⟨fun z => ⟨z.1.resolve_right g, z.2⟩, fun z => ⟨Or.inl z.1, z.2⟩⟩
            simp only [e]
            refine ⟨?_, ?_, ?_, fun z => ?_, k5⟩
            · rw [gI_ne (by omega), gI_ne (by omega), gI_ne (by omega)]
              exact k1
            · rw [gI_ne (by omega), gI_ne (by omega), gI_ne (by omega)]
              exact k2
            · rw [gI_ne (by omega), gI_ne (by omega), gI_ne (by omega)]
              exact k3
            · rw [gI_ne (by omega), gI_ne (by omega), gI_ne (by omega)]
              exact k4 z
        · obtain ⟨g0, g1, g2, g3, -⟩ := hL2
          refine ⟨g0, g1, ?_, ?_, trivial⟩
          · rw [g2, hfl]
          · rw [g3, zz_add]
            rfl
/-- those that are dead leave their chairs -/
theorem pc_bury (hT : HT H) (hY : Y = 32 ∨ Y = 38) (hJ : J = 3 ∨ J = 11) (hj : gR H Y 0 = J) (hE : jDead H J E) (hw : w < 52) (hA : ycA H Y s) (h : Pn none m 5 0 [(0, .ref Y), (1, .int (Int32.ofInt (w : Int)))] [] H r H') :
    r = .inl none ∧ HT H' ∧ yFr Y H H' ∧ ycA H' Y (ycB E w s) := by
  obtain ⟨a1, a2, ⟨a3, a4⟩, a5, a6, a8, a7⟩ := hA
  obtain ⟨-, hb⟩ := b_bury0 hT hY hJ hj ⟨rfl, rfl, trivial⟩ h
  rw [zz_cn] at hb
  rcases hb with ⟨c, L', hL', h'⟩ | ⟨c, e1, e2⟩
  · refine pc_buryL hY hJ hj hE hw a3 a4 a5 a8 m 0 L' H (Nat.zero_le _) hT yFr.rf ⟨a1, fun j x hj => (by cases hj), fun j x _ hj => a2 j x hj, fun p hp => ?_, fun p hp => ?_⟩ hL' h'
    · rw [a6 p hp]
      simp
    · have e : ¬ (p ∈ s.ch.take 0 ∧ E.dead w p = true) := fun z => by cases z.1
      simp only [if_neg e]
      exact a7 p hp
  · have c : (gI H Y 11 &&& gI H (J + 6) w) = Int32.ofInt 0 := Classical.not_not.mp c
    have hno : ∀ x, x ∈ s.ch → E.dead w x = false := by
      intro x hx
      cases z : E.dead w x with
      | false => rfl
      | true => exact (bz_and0.mp c x (by have := a4 x hx; omega) (by rw [a6 x (by have := a4 x hx; omega)]; exact decide_eq_true hx) (by rw [hE w x hw (a4 x hx)]; exact z)).elim
    have hfl : s.ch.filter (fun x => !E.dead w x) = s.ch := List.filter_eq_self.mpr (fun x hx => by rw [hno x hx]; rfl)
    have e : ycB E w s = (s.ch, s.bg, fun x => if x ∈ s.ch ∧ E.dead w x = true then yDw E x else s.en x, s.fo) := by
      show (s.ch.filter (fun x => !E.dead w x), s.bg, _, s.fo) = _
      rw [hfl]
    rw [e2, e]
    refine ⟨e1, hT, yFr.rf, a1, a2, ⟨a3, a4⟩, a5, a6, a8, fun p hp => ?_⟩
    have e : ¬ (p ∈ s.ch ∧ E.dead w p = true) := fun z => by
      have h2 := z.2
      rw [hno p z.1] at h2
      cases h2
    have h7 := a7 p hp
    rw [show s.en p = (if p ∈ s.ch ∧ E.dead w p = true then yDw E p else s.en p) from (if_neg e).symm] at h7
    exact h7
end PCYC

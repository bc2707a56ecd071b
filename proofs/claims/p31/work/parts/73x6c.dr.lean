/-! PC: the class's year: a draw -/
section PCDR
variable {m : Nat} {L : mjL} {H H' H0 H1 : mjH} {r : Option Value ⊕ Nat} {J Y Q : Nat} {E : yE} {s : yC} {p w : Nat}
theorem pc_lives (hT : HT H) (hY : Y = 32 ∨ Y = 38) (hJ : J = 3 ∨ J = 11) (hj : gR H Y 0 = J) (hE : jDead H J E) (hA : ycA H Y s) (hp : p < 17) (hw : w < 17) (hn : ¬ p ∈ s.ch) (h : Pn none m 6 0 [(0, .ref Y), (1, .int (Int32.ofInt (p : Int))), (2, .int (Int32.ofInt (w : Int)))] [] H r H') :
    r = .inl (some (.int (Int32.ofInt (if E.dead w p = true then 0 else 1)))) ∧ HT H' ∧ yFr Y H H' ∧ ycA H' Y (s.ch, yU s.bg p w, yU s.en p (if E.dead w p = true then (w : Int) else 52), yU s.fo p (-1)) := by
  obtain ⟨a1, a2, ⟨a3, a4⟩, a5, a6, a8, a7⟩ := hA
  obtain ⟨-, hb⟩ := b_lives hT hY hJ hj ⟨rfl, rfl, rfl, trivial⟩ h
  rw [zz_cn (n := w), zz_cn (n := p), bz_tst (by omega), hE w p (by omega) hp] at hb
  -- alike for both ways
  have fin : ∀ (e : Int) (b : Int), 0 ≤ e → e ≤ 52 → b = (if e < 52 ∧ (-1 : Int) = -1 then 1 else 0) → H' = pV (pV (pV (pV H (Y + 1) p (.int (Int32.ofInt (w : Int)))) (Y + 2) p (.int (Int32.ofInt e))) (Y + 3) p (.int (Int32.ofInt (-1)))) (Y + 4) p (.int (Int32.ofInt b)) → HT H' ∧ yFr Y H H' ∧ ycA H' Y (s.ch, yU s.bg p w, yU s.en p e, yU s.fo p (-1)) := by
    intro e b he1 he2 hb2 e2
    have t0 := HT.pI (j := p) (x := Int32.ofInt (w : Int)) hT (kA_Y_1_100_17_false hY)
    have t1 := HT.pI (j := p) (x := Int32.ofInt e) t0 (kA_Y_2_100_17_false hY)
    have t2 := HT.pI (j := p) (x := Int32.ofInt (-1)) t1 (kA_Y_3_100_17_false hY)
    have t3 := HT.pI (j := p) (x := Int32.ofInt b) t2 (kA_Y_4_103_17_false hY)
    rw [← e2] at t3
    have n1 : ∀ a b, ¬ (Y + 1 ≤ a ∧ a ≤ Y + 4) → gI H' a b = gI H a b := fun a b hab => by rw [e2, gI_ne (by omega), gI_ne (by omega), gI_ne (by omega), gI_ne (by omega)]
    refine ⟨t3, ?_, ?_, fun i x hx => ?_, ⟨a3, a4⟩, a5, fun q hq => ?_, fun x hx => ?_, fun q hq => ?_⟩
    · rw [e2]
      exact (((yFr.rf.put (by omega)).put (by omega)).put (by omega)).put (by omega)
    · rw [n1 _ _ (by omega)]
      exact a1
    · rw [n1 _ _ (by omega)]
      exact a2 i x hx
    · rw [n1 _ _ (by omega)]
      exact a6 q hq
    · show yU s.fo p (-1) x = -1
      rw [yU_ne (fun g => hn (by rw [← g]; exact hx))]
      exact a8 x hx
    · obtain ⟨b1, b2, b3, b4, b5⟩ := a7 q hq
      show gI H' (Y + 1) q = Int32.ofInt (yU s.bg p w q) ∧ gI H' (Y + 2) q = Int32.ofInt (yU s.en p e q) ∧ gI H' (Y + 3) q = Int32.ofInt (yU s.fo p (-1) q) ∧ (yU s.bg p w q ≠ -1 → gI H' (Y + 4) q = Int32.ofInt (if yU s.en p e q < 52 ∧ yU s.fo p (-1) q = -1 then 1 else 0)) ∧ ((-1 ≤ yU s.bg p w q ∧ yU s.bg p w q ≤ 51) ∧ 0 ≤ yU s.en p e q ∧ yU s.en p e q ≤ 52)
      by_cases g : q = p
      · subst g
        rw [yU_at, yU_at, yU_at]
        refine ⟨?_, ?_, ?_, fun _ => ?_, by omega, he1, he2⟩
        · rw [e2, gI_ne (by omega), gI_ne (by omega), gI_ne (by omega), gI_at hT (kA_Y_1_100_17_false hY) hq]
        · rw [e2, gI_ne (by omega), gI_ne (by omega), gI_at t0 (kA_Y_2_100_17_false hY) hq]
        · rw [e2, gI_ne (by omega), gI_at t1 (kA_Y_3_100_17_false hY) hq]
        · rw [e2, gI_at t2 (kA_Y_4_103_17_false hY) hq, hb2]
      · rw [yU_ne g, yU_ne g, yU_ne g]
        refine ⟨?_, ?_, ?_, fun z => ?_, b5⟩
        · rw [e2, gI_ne (by omega), gI_ne (by omega), gI_ne (by omega), gI_ne (by omega)]
          exact b1
        · rw [e2, gI_ne (by omega), gI_ne (by omega), gI_ne (by omega), gI_ne (by omega)]
          exact b2
        · rw [e2, gI_ne (by omega), gI_ne (by omega), gI_ne (by omega), gI_ne (by omega)]
          exact b3
        · rw [e2, gI_ne (by omega), gI_ne (by omega), gI_ne (by omega), gI_ne (by omega)]
          exact b4 z
  rcases hb with ⟨c, -, e1, e2⟩ | ⟨c, -, e1, e2⟩
  · rw [c]
    rw [if_neg (show ¬ (false = true) by decide), if_neg (show ¬ (false = true) by decide)]
    exact ⟨e1, fin 52 0 (by omega) (by omega) (by rw [if_neg (by omega)]) e2⟩
  · have c : E.dead w p = true := by
      cases g : E.dead w p with
      | true => rfl
      | false => exact absurd g c
    rw [c, if_pos rfl, if_pos rfl]
    exact ⟨e1, fin (w : Int) 1 (by omega) (by omega) (by rw [if_pos ⟨by omega, rfl⟩]) e2⟩
/-- a new piece meets those that are held -/
theorem pc_stands {bg en fo : Nat → Int} {l : List Nat} (hT : HT H) (hY : Y = 32 ∨ Y = 38) (hJ : J = 3 ∨ J = 11) (hj : gR H Y 0 = J) (hF : jFal H J E) (hp : p < 17) (hw : w < 17) (hn : ¬ p ∈ l) (hA : ycA H Y (l, bg, en, fo)) (hWo : yWo E H Y bg w p) (hWr : ∀ o a h z, E.who o p a h z w = 0 ∨ E.who o p a h z w = 1 ∨ E.who o p a h z w = 2)
    (h : Pn none m 7 0 [(0, .ref Y), (1, .int (Int32.ofInt (p : Int))), (2, .int (Int32.ofInt (w : Int)))] [] H r H') :
    r = .inl (some (.int (Int32.ofInt (if (ycM E bg w p l true (l.length : Int) en fo).2.1 = true then 1 else 0)))) ∧ HT H' ∧ yFr Y H H' ∧ ycA H' Y ((ycM E bg w p l true (l.length : Int) en fo).1, bg, (ycM E bg w p l true (l.length : Int) en fo).2.2.1, (ycM E bg w p l true (l.length : Int) en fo).2.2.2) := by
  obtain ⟨a1, a2, ⟨a3, a4⟩, a5, a6, a8, a7⟩ := hA
  have a1 : gI H Y 10 = Int32.ofInt (l.length : Int) := a1
  have a3 : l.length ≤ 17 := a3
  obtain ⟨L', hL, r2, H2, q, k⟩ := b_st0 hT hY hJ hj ⟨rfl, rfl, rfl, trivial⟩ h
  obtain ⟨d1, d2⟩ := pc_foes hT hJ hw hp q
  subst d1
  rw [d2] at k
  have h2 := pn_ret k
  have hb := b_st1 hT hY hL h2
  rw [a1] at hb
  have hfo : ∀ o, o ∈ l → bt (gI H Y 11 &&& gI H (J + 7) (w * 17 + p)) o = E.fal w o p := by
    intro o ho
    have := a4 o ho
    rw [b_and, a6 o (by omega), decide_eq_true (show o ∈ (l, bg, en, fo).1 from ho), Bool.true_and, hF w p o hw hp this]
  rcases hb with ⟨c, L2, hL2, h3⟩ | ⟨c, L2, hL2, h3⟩
  · refine pc_stL hY hp hw hWo hWr m l [] true (l.length : Int) en fo 0 L2 H hT yFr.rf ⟨⟨a1, by simp⟩, fun j x hj => (by cases hj), fun j x hj => by rw [Nat.zero_add]; exact a2 j x hj, ⟨Nat.le_refl _, by omega⟩, fun q hq => ?_⟩ a7 a5 (fun x hx => ⟨a4 x hx, fun g => hn (by rw [← g]; exact hx), a8 x hx⟩) hfo (n := l.length) (by omega) hL2 h3
    rw [a6 q hq]
    simp
  · have c : (gI H Y 11 &&& gI H (J + 7) (w * 17 + p)) = Int32.ofInt 0 := Classical.not_not.mp c
    have hno : ∀ o, o ∈ l → E.fal w o p = false := by
      intro o ho
      rw [← hfo o ho, c]
      exact bz_0
    rw [ycM_none l hno]
    cases m with
    | zero => exact Pn0 h3
    | succ m =>
      have hb := b_stL hT hY hL2 h3
      rcases hb with ⟨-, e1, e2⟩ | ⟨c, -⟩
      · subst e2
        exact ⟨e1, hT, yFr.rf, a1, a2, ⟨a3, a4⟩, a5, a6, a8, a7⟩
      · rw [zz_le] at c
        omega
end PCDR

/-! PC: the class's year: a new piece meets those that are held -/
section PCST
variable {m : Nat} {L : mjL} {H H' H0 H1 : mjH} {r : Option Value ⊕ Nat} {J Y Q : Nat} {E : yE} {s : yC} {p w : Nat}
def tFr (H H' : mjH) : Prop := ∀ a b, ¬ (a = 21 ∨ a = 22 ∨ a = 25 ∨ a = 26) → sxEl H' a b = sxEl H a b
theorem tFr.rf : tFr H H := fun _ _ _ => rfl
theorem tFr.tr {H2 : mjH} (h1 : tFr H H1) (h2 : tFr H1 H2) : tFr H H2 := fun a b h => (h2 a b h).trans (h1 a b h)
theorem tFr.put {a b : Nat} {v : Value} (h : tFr H H1) (hab : a = 21 ∨ a = 22 ∨ a = 25 ∨ a = 26) : tFr H (pV H1 a b v) := fun c d hcd => by
  rw [sxEl_ne (fun e => hcd (by rw [e.1]; exact hab))]
  exact h c d hcd
theorem tFr.vI {a b : Nat} (h : tFr H H1) (hab : ¬ (a = 21 ∨ a = 22 ∨ a = 25 ∨ a = 26)) : gI H1 a b = gI H a b := by
  unfold gI
  rw [h a b hab]
theorem tFr.y (h : yFr Y H0 H) (h2 : tFr H H1) : yFr Y H0 H1 := fun a b hab => (h2 a b (fun g => hab (Or.inr g))).trans (h a b hab)
/-- with whom a piece falls out that is drawn in a week -/
def jFal (H : mjH) (J : Nat) (E : yE) : Prop := ∀ w p o : Nat, w < 17 → p < 17 → o < 17 → bt (gI H (J + 7) (w * 17 + p)) o = E.fal w o p
theorem yFr.fal (hJ : J = 3 ∨ J = 11) (hY : Y = 32 ∨ Y = 38) (h : yFr Y H H1) (hE : jFal H J E) : jFal H1 J E := fun w p o hw hp ho => by
  rw [h.vI (by omega)]
  exact hE w p o hw hp ho
theorem pc_foes (hT : HT H) (hJ : J = 3 ∨ J = 11) (hw : w < 17) (hp : p < 17) (h : Pn none m 23 0 [(0, .ref J), (1, .int (Int32.ofInt (p : Int))), (2, .int (Int32.ofInt (w : Int)))] [] H r H') : r = .inl (some (.int (gI H (J + 7) (w * 17 + p)))) ∧ H' = H := by
  have hb := b_foesOf hT hJ ⟨rfl, rfl, rfl, trivial⟩ h
  have e : Int32.ofInt (w : Int) * Int32.ofInt 17 + Int32.ofInt (p : Int) = Int32.ofInt ((w * 17 + p : Nat) : Int) := by
    rw [zz_mul, zz_add]
    exact congrArg Int32.ofInt (by omega)
  rw [e, zz_lt, zz_lt, zz_cn] at hb
  rcases hb with ⟨c, -⟩ | ⟨-, ⟨-, -, e1⟩ | ⟨c, -⟩⟩
  · omega
  · exact e1
  · omega
theorem ycM_f {bg : Nat → Int} {en fo : Nat → Int} {z : Int} {o : Nat} {l : List Nat} : ycM E bg w p (o :: l) false z en fo = (o :: (ycM E bg w p l false z en fo).1, (ycM E bg w p l false z en fo).2) := by
  rw [ycM]
theorem ycM_k {bg : Nat → Int} {en fo : Nat → Int} {z : Int} {o : Nat} {l : List Nat} (h : E.fal w o p = false) : ycM E bg w p (o :: l) true z en fo = (o :: (ycM E bg w p l true z en fo).1, (ycM E bg w p l true z en fo).2) := by
  rw [ycM, if_neg (by rw [h]; decide)]
theorem ycM_0 {bg : Nat → Int} {en fo : Nat → Int} {z : Int} {o : Nat} {l : List Nat} (h : E.fal w o p = true) (e : E.who o p ((w : Int) - bg o) (if E.tru o = true then 0 else (w : Int) - bg o) z w = 0) : ycM E bg w p (o :: l) true z en fo = ycM E bg w p l false (z - 1) (yU (yU en p w) o w) (yU (yU fo p o) o p) := by
  rw [ycM, if_pos h, if_pos e]
theorem ycM_1 {bg : Nat → Int} {en fo : Nat → Int} {z : Int} {o : Nat} {l : List Nat} (h : E.fal w o p = true) (e : E.who o p ((w : Int) - bg o) (if E.tru o = true then 0 else (w : Int) - bg o) z w = 1) : ycM E bg w p (o :: l) true z en fo = (o :: (ycM E bg w p l false z (yU en p w) (yU fo p o)).1, (ycM E bg w p l false z (yU en p w) (yU fo p o)).2) := by
  rw [ycM, if_pos h, if_neg (by rw [e]; decide), if_pos e]
theorem ycM_2 {bg : Nat → Int} {en fo : Nat → Int} {z : Int} {o : Nat} {l : List Nat} (h : E.fal w o p = true) (e : E.who o p ((w : Int) - bg o) (if E.tru o = true then 0 else (w : Int) - bg o) z w = 2) : ycM E bg w p (o :: l) true z en fo = ycM E bg w p l true (z - 1) (yU en o w) (yU fo o p) := by
  rw [ycM, if_pos h, if_neg (by rw [e]; decide), if_neg (by rw [e]; decide)]
theorem ycM_none {bg : Nat → Int} {en fo : Nat → Int} {z : Int} : ∀ (l : List Nat), (∀ o, o ∈ l → E.fal w o p = false) → ycM E bg w p l true z en fo = (l, true, en, fo)
  | [], _ => rfl
  | o :: r, h => by
    unfold ycM
    rw [if_neg (by rw [h o List.mem_cons_self]; decide), ycM_none r (fun x hx => h x (List.mem_cons_of_mem _ hx))]
theorem ycP.cg {bg en fo : Nat → Int} (h : ycP H Y bg en fo) (hs : ∀ a b, Y + 1 ≤ a → a ≤ Y + 4 → gI H1 a b = gI H a b) : ycP H1 Y bg en fo := fun q hq => by
  obtain ⟨h1, h2, h3, h4, h5⟩ := h q hq
  exact ⟨(hs _ _ (by omega) (by omega)).trans h1, (hs _ _ (by omega) (by omega)).trans h2, (hs _ _ (by omega) (by omega)).trans h3, fun g => (hs _ _ (by omega) (by omega)).trans (h4 g), h5⟩
/-- a piece falls -/
theorem ycP.fall {bg en fo : Nat → Int} {o : Nat} (hT : HT H) (hY : Y = 32 ∨ Y = 38) (h : ycP H Y bg en fo) (hp : p < 17) (hw : w < 17) : ycP (pV (pV (pV H (Y + 2) p (.int (Int32.ofInt (w : Int)))) (Y + 3) p (.int (Int32.ofInt (o : Int)))) (Y + 4) p (.int (Int32.ofInt 0))) Y bg (yU en p w) (yU fo p o) := by
  have t1 := HT.pI (j := p) (x := Int32.ofInt (w : Int)) hT (kA_Y_2_100_17_false hY)
  have t2 := HT.pI (j := p) (x := Int32.ofInt (o : Int)) t1 (kA_Y_3_100_17_false hY)
  intro q hq
  obtain ⟨h1, h2, h3, h4, h5⟩ := h q hq
  by_cases g : q = p
  · subst g
    rw [yU_at, yU_at]
    refine ⟨?_, ?_, ?_, fun _ => ?_, h5.1, by omega, by omega⟩
    · rw [gI_ne (by omega), gI_ne (by omega), gI_ne (by omega)]
      exact h1
    · rw [gI_ne (by omega), gI_ne (by omega), gI_at hT (kA_Y_2_100_17_false hY) hq]
    · rw [gI_ne (by omega), gI_at t1 (kA_Y_3_100_17_false hY) hq]
    · rw [gI_at t2 (kA_Y_4_103_17_false hY) hq, if_neg (by omega)]
  · rw [yU_ne g, yU_ne g]
    refine ⟨?_, ?_, ?_, fun z => ?_, h5⟩
    · rw [gI_ne (by omega), gI_ne (by omega), gI_ne (by omega)]
      exact h1
    · rw [gI_ne (by omega), gI_ne (by omega), gI_ne (by omega)]
      exact h2
    · rw [gI_ne (by omega), gI_ne (by omega), gI_ne (by omega)]
      exact h3
    · rw [gI_ne (by omega), gI_ne (by omega), gI_ne (by omega)]
      exact h4 z
theorem ycP.fallT {o : Nat} (hT : HT H) (hY : Y = 32 ∨ Y = 38) : HT (pV (pV (pV H (Y + 2) p (.int (Int32.ofInt (w : Int)))) (Y + 3) p (.int (Int32.ofInt (o : Int)))) (Y + 4) p (.int (Int32.ofInt 0))) :=
  HT.pI (HT.pI (HT.pI hT (kA_Y_2_100_17_false hY)) (kA_Y_3_100_17_false hY)) (kA_Y_4_103_17_false hY)
theorem yFr.falls {o : Nat} (h : yFr Y H0 H) : yFr Y H0 (pV (pV (pV H (Y + 2) p (.int (Int32.ofInt (w : Int)))) (Y + 3) p (.int (Int32.ofInt (o : Int)))) (Y + 4) p (.int (Int32.ofInt 0))) := ((h.put (by omega)).put (by omega)).put (by omega)
/-- so far as a meeting has gone: K keep their chairs, r are still to be met -/
def yMI (H : mjH) (Y : Nat) (K r : List Nat) (z : Int) (i : Nat) : Prop := (gI H Y 10 = Int32.ofInt z ∧ z = (K.length : Int) + r.length) ∧ (∀ (j x : Nat), K[j]? = some x → gI H (Y + 5) j = Int32.ofInt (x : Int)) ∧ (∀ (j x : Nat), r[j]? = some x → gI H (Y + 5) (i + j) = Int32.ofInt (x : Int)) ∧ (K.length ≤ i ∧ i + r.length ≤ 17) ∧ ∀ q, q < 32 → bt (gI H Y 11) q = (decide (q ∈ K) || decide (q ∈ r))
def yWo (E : yE) (H0 : mjH) (Y : Nat) (bg : Nat → Int) (w p : Nat) : Prop := ∀ (m : Nat) (H : mjH) (r : Option Value ⊕ Nat) (H' : mjH) (o : Nat) (z : Int), HT H → yFr Y H0 H → o < 17 → gI H (Y + 1) o = Int32.ofInt (bg o) → gI H Y 10 = Int32.ofInt z → 0 ≤ z → z ≤ 17 → Pn none m 9 0 [(0, .ref Y), (1, .int (Int32.ofInt (o : Int))), (2, .int (Int32.ofInt (p : Int))), (3, .int (Int32.ofInt (w : Int)))] [] H r H' →
  r = .inl (some (.int (Int32.ofInt (E.who o p ((w : Int) - bg o) (if E.tru o = true then 0 else (w : Int) - bg o) z w)))) ∧ HT H' ∧ tFr H H'
theorem pc_stL {bg : Nat → Int} {f : Int32} {n : Nat} (hY : Y = 32 ∨ Y = 38) (hp : p < 17) (hw : w < 17) (hWo : yWo E H0 Y bg w p) (hWr : ∀ o a h z, E.who o p a h z w = 0 ∨ E.who o p a h z w = 1 ∨ E.who o p a h z w = 2) : ∀ (m : Nat) (rest K : List Nat) (st : Bool) (z : Int) (en fo : Nat → Int) (i : Nat) (L : mjL) (H : mjH), HT H → yFr Y H0 H → yMI H Y K rest z i → ycP H Y bg en fo → (K ++ rest).Nodup → (∀ x, x ∈ K ++ rest → x < 17 ∧ x ≠ p ∧ fo x = -1) → (∀ o, o ∈ rest → bt f o = E.fal w o p) → n = i + rest.length →
    LG L [(0, .ref Y), (1, .int (Int32.ofInt (p : Int))), (2, .int (Int32.ofInt (w : Int))), (3, .int f), (4, .int (Int32.ofInt (n : Int))), (5, .int (Int32.ofInt (K.length : Int))), (6, .int (Int32.ofInt (if st = true then 1 else 0))), (7, .int (Int32.ofInt (i : Int)))] →
    Pn none m 7 38 L [] H r H' → r = .inl (some (.int (Int32.ofInt (if (ycM E bg w p rest st z en fo).2.1 = true then 1 else 0)))) ∧ HT H' ∧ yFr Y H0 H' ∧ ycA H' Y (K ++ (ycM E bg w p rest st z en fo).1, bg, (ycM E bg w p rest st z en fo).2.2.1, (ycM E bg w p rest st z en fo).2.2.2)
  | 0, _, _, _, _, _, _, _, _, _, _, _, _, _, _, _, _, _, _, h => Pn0 h
  | m + 1, rest, K, st, z, en, fo, i, L, H, hT, hf, hI, hP, hnd, hall, hfl, hn, hL, h => by
    obtain ⟨⟨i1, i1z⟩, i2, i3, ⟨i4, i5⟩, i6⟩ := hI
    have hb := b_stL hT hY hL h
    rw [zz_le, zz_cn (n := i), zz_cn (n := K.length)] at hb
    cases rest with
    | nil =>
      rcases hb with ⟨c, e1, e2⟩ | ⟨c, -⟩
      · subst e2
        refine ⟨e1, hT, hf, ?_⟩
        show ycA H' Y (K ++ [], bg, en, fo)
        rw [List.append_nil] at hnd hall ⊢
        refine ⟨?_, i2, ⟨by simp only [List.length_nil] at i5; show K.length ≤ 17; omega, fun x hx => (hall x hx).1⟩, hnd, fun q hq => ?_, fun x hx => (hall x hx).2.2, hP⟩
        · rw [i1, i1z]
          exact congrArg Int32.ofInt (by simp)
        · rw [i6 q hq]
          simp
      · simp only [List.length_nil] at hn
        omega
    | cons o rest =>
      have hlen : (o :: rest).length = rest.length + 1 := rfl
      have ho : o ∈ K ++ o :: rest := List.mem_append_right _ List.mem_cons_self
      obtain ⟨ho17, hop, hofo⟩ := hall o ho
      have e0 : gI H (Y + 5) i = Int32.ofInt (o : Int) := i3 0 o rfl
      have hnd2 : (K ++ [o] ++ rest).Nodup := by
        rw [List.append_assoc]
        exact hnd
      have hnd3 : (K ++ rest).Nodup := List.Sublist.nodup (List.Sublist.append (List.Sublist.refl K) (List.sublist_cons_self o rest)) hnd
      have hoK : ¬ o ∈ K := fun g => (List.nodup_append.mp hnd).2.2 o g o List.mem_cons_self rfl
      have hor : ¬ o ∈ rest := (List.nodup_cons.mp (List.nodup_append.mp hnd).2.1).1
      have hall3 : ∀ x, x ∈ K ++ rest → x < 17 ∧ x ≠ p ∧ fo x = -1 := fun x hx => hall x (by
        rcases List.mem_append.mp hx with g | g
        · exact List.mem_append_left _ g
        · exact List.mem_append_right _ (List.mem_cons_of_mem _ g))
      have hfl3 : ∀ x, x ∈ rest → bt f x = E.fal w x p := fun x hx => hfl x (List.mem_cons_of_mem _ hx)
      -- one that keeps its chair
      have keep : ∀ (st : Bool) (en fo : Nat → Int) (L' : mjL) (H1 : mjH), HT H1 → yFr Y H0 H1 → gI H1 Y 10 = Int32.ofInt z → gI H1 Y 11 = gI H Y 11 → (∀ b, gI H1 (Y + 5) b = gI H (Y + 5) b) → ycP H1 Y bg en fo → (∀ x, x ∈ K ++ o :: rest → fo x = -1) →
          LG L' [(0, .ref Y), (1, .int (Int32.ofInt (p : Int))), (2, .int (Int32.ofInt (w : Int))), (3, .int f), (4, .int (Int32.ofInt (n : Int))), (5, .int (Int32.ofInt (K.length : Int) + Int32.ofInt 1)), (6, .int (Int32.ofInt (if st = true then 1 else 0))), (7, .int (Int32.ofInt (i : Int) + Int32.ofInt 1))] →
          Pn none m 7 38 L' [] (pV H1 (Y + 5) K.length (.int (Int32.ofInt (o : Int)))) r H' →
          r = .inl (some (.int (Int32.ofInt (if (ycM E bg w p rest st z en fo).2.1 = true then 1 else 0)))) ∧ HT H' ∧ yFr Y H0 H' ∧ ycA H' Y (K ++ o :: (ycM E bg w p rest st z en fo).1, bg, (ycM E bg w p rest st z en fo).2.2.1, (ycM E bg w p rest st z en fo).2.2.2) := by
        intro st en fo L' H1 hT1 hf1 k1 k2 k3 k4 k5 hL' h'
        have ih := pc_stL (n := n) hY hp hw hWo hWr m rest (K ++ [o]) st z en fo (i + 1) L' _ (HT.pI hT1 (kA_Y_5_100_17_false hY)) (hf1.put (by omega)) ⟨⟨?_, ?_⟩, fun j x hj => ?_, fun j x hj => ?_, ⟨?_, ?_⟩, fun q hq => ?_⟩ (k4.cg (fun a b h1 h2 => gI_ne (by omega))) hnd2 (fun x hx => ?_) hfl3 (by omega) ?_ h'
        · rw [List.append_assoc] at ih
          exact ih
        · rw [gI_ne (by omega)]
          exact k1
        · rw [i1z, List.length_append, hlen]
          simp only [List.length_singleton]
          omega
        · rcases Nat.lt_or_ge j K.length with g | g
          · rw [List.getElem?_append_left g] at hj
            rw [gI_ne (by omega), k3]
            exact i2 j x hj
          · rw [List.getElem?_append_right g] at hj
            have h0 : j - K.length = 0 := by
              have := (List.getElem?_eq_some_iff.mp hj).1
              simp only [List.length_singleton] at this
              omega
            rw [h0] at hj
            cases hj
            rw [show j = K.length by omega, gI_at hT1 (kA_Y_5_100_17_false hY) (by omega)]
        · rw [gI_ne (by omega), k3]
          have := i3 (j + 1) x hj
          rw [show i + (j + 1) = i + 1 + j by omega] at this
          exact this
        · rw [List.length_append, List.length_singleton]
          omega
        · rw [hlen] at i5
          omega
        · rw [gI_ne (by omega), k2, i6 q hq]
          rw [Bool.eq_iff_iff]
          simp only [Bool.or_eq_true, decide_eq_true_eq, List.mem_append, List.mem_cons, List.not_mem_nil, or_false]
          constructor
          · rintro (g | g | g)
            · exact Or.inl (Or.inl g)
            · exact Or.inl (Or.inr g)
            · exact Or.inr g
          · rintro ((g | g) | g)
            · exact Or.inl g
            · exact Or.inr (Or.inl g)
            · exact Or.inr (Or.inr g)
        · rw [List.append_assoc] at hx
          exact ⟨(hall x hx).1, (hall x hx).2.1, k5 x hx⟩
        · obtain ⟨g0, g1, g2, g3, g4, g5, g6, g7, -⟩ := hL'
          refine ⟨g0, g1, g2, g3, g4, ?_, g6, ?_, trivial⟩
          · rw [g5, zz_add, List.length_append]
            rfl
          · rw [g7, zz_add]
            rfl
      -- one that leaves it
      have leave : ∀ (st : Bool) (en fo : Nat → Int) (L' : mjL) (H1 : mjH), HT H1 → yFr Y H0 H1 → gI H1 Y 10 = Int32.ofInt z → gI H1 Y 11 = gI H Y 11 → (∀ b, gI H1 (Y + 5) b = gI H (Y + 5) b) → ycP H1 Y bg en fo → (∀ x, x ∈ K ++ rest → fo x = -1) →
          LG L' [(0, .ref Y), (1, .int (Int32.ofInt (p : Int))), (2, .int (Int32.ofInt (w : Int))), (3, .int f), (4, .int (Int32.ofInt (n : Int))), (5, .int (Int32.ofInt (K.length : Int))), (6, .int (Int32.ofInt (if st = true then 1 else 0))), (7, .int (Int32.ofInt (i : Int) + Int32.ofInt 1))] →
          Pn none m 7 38 L' [] (pV (pV H1 Y 11 (.int (gI H1 Y 11 &&& ((Int32.ofInt 1 <<< (Int32.ofInt (o : Int) &&& 31)) ^^^ Int32.ofInt (-1))))) Y 10 (.int (gI H1 Y 10 - Int32.ofInt 1))) r H' →
          r = .inl (some (.int (Int32.ofInt (if (ycM E bg w p rest st (z - 1) en fo).2.1 = true then 1 else 0)))) ∧ HT H' ∧ yFr Y H0 H' ∧ ycA H' Y (K ++ (ycM E bg w p rest st (z - 1) en fo).1, bg, (ycM E bg w p rest st (z - 1) en fo).2.2.1, (ycM E bg w p rest st (z - 1) en fo).2.2.2) := by
        intro st en fo L' H1 hT1 hf1 k1 k2 k3 k4 k5 hL' h'
        have t1 := HT.pFI (x := gI H1 Y 11 &&& ((Int32.ofInt 1 <<< (Int32.ofInt (o : Int) &&& 31)) ^^^ Int32.ofInt (-1))) hT1 (kF_Y_11_0_false hY)
        refine pc_stL (n := n) hY hp hw hWo hWr m rest K st (z - 1) en fo (i + 1) L' _ (HT.pFI t1 (kF_Y_10_0_false hY)) ((hf1.put (by omega)).put (by omega)) ⟨⟨?_, ?_⟩, fun j x hj => ?_, fun j x hj => ?_, ⟨?_, ?_⟩, fun q hq => ?_⟩ (k4.cg (fun a b h1 h2 => by rw [gI_ne (by omega), gI_ne (by omega)])) hnd3 (fun x hx => ⟨(hall3 x hx).1, (hall3 x hx).2.1, k5 x hx⟩) hfl3 (by omega) ?_ h'
        · rw [gI_fat t1 (kF_Y_10_0_false hY), k1, zz_sub]
        · rw [i1z, hlen]
          omega
        · rw [gI_ne (by omega), gI_ne (by omega), k3]
          exact i2 j x hj
        · rw [gI_ne (by omega), gI_ne (by omega), k3]
          have := i3 (j + 1) x hj
          rw [show i + (j + 1) = i + 1 + j by omega] at this
          exact this
        · omega
        · rw [hlen] at i5
          omega
        · rw [gI_ne (by omega), gI_fat hT1 (kF_Y_11_0_false hY), bz_clr (by omega) hq, k2, i6 q hq]
          rw [Bool.eq_iff_iff]
          simp only [Bool.or_eq_true, Bool.and_eq_true, Bool.not_eq_true', decide_eq_true_eq, decide_eq_false_iff_not, List.mem_cons]
          constructor
          · rintro ⟨g | g | g, g2⟩
            · exact Or.inl g
            · exact absurd g g2
            · exact Or.inr g
          · rintro (g | g)
            · exact ⟨Or.inl g, fun e => hoK (by rw [← e]; exact g)⟩
            · exact ⟨Or.inr (Or.inr g), fun e => hor (by rw [← e]; exact g)⟩
        · obtain ⟨g0, g1, g2, g3, g4, g5, g6, g7, -⟩ := hL'
          refine ⟨g0, g1, g2, g3, g4, g5, g6, ?_, trivial⟩
          rw [g7, zz_add]
          rfl
      rcases hb with ⟨c, -⟩ | ⟨-, -, ⟨c2, -, L', hL', h'⟩ | ⟨c2, hb⟩⟩
      · rw [hlen] at hn
        omega
      · -- it has fallen already
        have hst : st = false := by
          cases st with
          | false => rfl
          | true =>
            rw [if_pos rfl, zz_eq] at c2
            omega
        subst hst
        rw [e0] at h'
        rw [ycM_f]
        exact keep false en fo L' H hT hf i1 rfl (fun _ => rfl) hP (fun x hx => (hall x hx).2.2) hL' h'
      · have hst : st = true := by
          cases st with
          | true => rfl
          | false => exact absurd rfl c2
        subst hst
        rw [e0, bz_tst (by omega), hfl o List.mem_cons_self] at hb
        rcases hb with ⟨c3, -, L', hL', h'⟩ | ⟨c3, L', hL', r2, H2, q, k⟩
        · rw [ycM_k c3]
          exact keep true en fo L' H hT hf i1 rfl (fun _ => rfl) hP (fun x hx => (hall x hx).2.2) hL' h'
        · have hfa : E.fal w o p = true := by
            cases g : E.fal w o p with
            | true => rfl
            | false => exact absurd g c3
          have z1 : 0 ≤ z := by omega
          have z2 : z ≤ 17 := by omega
          obtain ⟨d1, d2, d3⟩ := hWo m H r2 H2 o z hT hf ho17 (hP o ho17).1 i1 z1 z2 q
          subst d1
          have h2 := pn_ret k
          have hf2 : yFr Y H0 H2 := tFr.y hf d3
          have k1 : gI H2 Y 10 = Int32.ofInt z := (d3.vI (by omega)).trans i1
          have k2 : gI H2 Y 11 = gI H Y 11 := d3.vI (by omega)
          have k3 : ∀ b, gI H2 (Y + 5) b = gI H (Y + 5) b := fun b => d3.vI (by omega)
          have k4 : ycP H2 Y bg en fo := hP.cg (fun a b h1 h2 => d3.vI (by omega))
          rcases hWr o ((w : Int) - bg o) (if E.tru o = true then 0 else (w : Int) - bg o) z with e | e | e
          · rw [e] at h2
            rw [ycM_0 hfa e]
            obtain ⟨L2, hL2, h3⟩ := b_stW0 d2 hY hL' h2
            rw [zz_cn, zz_cn] at h3
            have p1 := ycP.fall (w := w) (o := o) d2 hY k4 hp hw
            have T1 := ycP.fallT (p := p) (w := w) (o := o) d2 hY
            have p2 := ycP.fall (w := w) (p := o) (o := p) T1 hY p1 ho17 hw
            have T2 := ycP.fallT (p := o) (w := w) (o := p) T1 hY
            refine leave false _ _ L2 _ T2 (yFr.falls (yFr.falls hf2)) ?_ ?_ (fun b => ?_) p2 (fun x hx => ?_) hL2 ?_
            · rw [gI_ne (by omega), gI_ne (by omega), gI_ne (by omega), gI_ne (by omega), gI_ne (by omega), gI_ne (by omega)]
              exact k1
            · rw [gI_ne (by omega), gI_ne (by omega), gI_ne (by omega), gI_ne (by omega), gI_ne (by omega), gI_ne (by omega)]
              exact k2
            · rw [gI_ne (by omega), gI_ne (by omega), gI_ne (by omega), gI_ne (by omega), gI_ne (by omega), gI_ne (by omega)]
              exact k3 b
            · rw [yU_ne (fun g => ?_), yU_ne (hall3 x hx).2.1]
              · exact (hall3 x hx).2.2
              · rw [g] at hx
                rcases List.mem_append.mp hx with g2 | g2
                · exact hoK g2
                · exact hor g2
            · rw [gI_ne (by omega), gI_ne (by omega), gI_ne (by omega), gI_ne (by omega), gI_ne (by omega), gI_ne (by omega), gI_ne (by omega), gI_ne (by omega), gI_ne (by omega), gI_ne (by omega), gI_ne (by omega), gI_ne (by omega)]
              exact h3
          · rw [e] at h2
            rw [ycM_1 hfa e]
            obtain ⟨-, L2, hL2, h3⟩ := b_stW1 d2 hY hL' h2
            rw [zz_cn, zz_cn] at h3
            have p1 := ycP.fall (w := w) (o := o) d2 hY k4 hp hw
            have T1 := ycP.fallT (p := p) (w := w) (o := o) d2 hY
            refine keep false _ _ L2 _ T1 (yFr.falls hf2) ?_ ?_ (fun b => ?_) p1 (fun x hx => ?_) hL2 h3
            · rw [gI_ne (by omega), gI_ne (by omega), gI_ne (by omega)]
              exact k1
            · rw [gI_ne (by omega), gI_ne (by omega), gI_ne (by omega)]
              exact k2
            · rw [gI_ne (by omega), gI_ne (by omega), gI_ne (by omega)]
              exact k3 b
            · rw [yU_ne (hall x hx).2.1]
              exact (hall x hx).2.2
          · rw [e] at h2
            rw [ycM_2 hfa e]
            obtain ⟨L2, hL2, h3⟩ := b_stW2 d2 hY hL' h2
            rw [zz_cn] at h3
            have p1 := ycP.fall (w := w) (p := o) (o := p) d2 hY k4 ho17 hw
            have T1 := ycP.fallT (p := o) (w := w) (o := p) d2 hY
            refine leave true _ _ L2 _ T1 (yFr.falls hf2) ?_ ?_ (fun b => ?_) p1 (fun x hx => ?_) hL2 ?_
            · rw [gI_ne (by omega), gI_ne (by omega), gI_ne (by omega)]
              exact k1
            · rw [gI_ne (by omega), gI_ne (by omega), gI_ne (by omega)]
              exact k2
            · rw [gI_ne (by omega), gI_ne (by omega), gI_ne (by omega)]
              exact k3 b
            · rw [yU_ne (fun g => ?_)]
              · exact (hall3 x hx).2.2
              · rw [g] at hx
                rcases List.mem_append.mp hx with g2 | g2
                · exact hoK g2
                · exact hor g2
            · rw [gI_ne (by omega), gI_ne (by omega), gI_ne (by omega), gI_ne (by omega), gI_ne (by omega), gI_ne (by omega)]
              exact h3
end PCST

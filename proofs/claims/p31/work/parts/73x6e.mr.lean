/-! PC: the reference's year -/
section PCMR
variable {m : Nat} {L : mjL} {H H' H0 H1 : mjH} {r : Option Value ⊕ Nat} {E : yE} {s : yR} {p w : Nat}
/-- nothing but the year's own places has changed -/
def mFr (H H' : mjH) : Prop := ∀ a b, ¬ ((a = 78 ∧ 44 ≤ b ∧ b ≤ 47) ∨ a = 559 ∨ (561 ≤ a ∧ a ≤ 566) ∨ a = 569) → sxEl H' a b = sxEl H a b
theorem mFr.rf : mFr H H := fun _ _ _ => rfl
theorem mFr.tr {H2 : mjH} (h1 : mFr H H1) (h2 : mFr H1 H2) : mFr H H2 := fun a b h => (h2 a b h).trans (h1 a b h)
theorem mFr.put {a b : Nat} {v : Value} (h : mFr H H1) (hab : (a = 78 ∧ 44 ≤ b ∧ b ≤ 47) ∨ a = 559 ∨ (561 ≤ a ∧ a ≤ 566) ∨ a = 569) : mFr H (pV H1 a b v) := fun c d hcd => by
  rw [sxEl_ne (fun e => hcd (by rw [e.1, e.2]; exact hab))]
  exact h c d hcd
theorem mFr.vI {a b : Nat} (h : mFr H H1) (hab : ¬ ((a = 78 ∧ 44 ≤ b ∧ b ≤ 47) ∨ a = 559 ∨ (561 ≤ a ∧ a ≤ 566) ∨ a = 569)) : gI H1 a b = gI H a b := by
  unfold gI
  rw [h a b hab]
theorem mFr.vL {a b : Nat} (h : mFr H H1) (hab : ¬ ((a = 78 ∧ 44 ≤ b ∧ b ≤ 47) ∨ a = 559 ∨ (561 ≤ a ∧ a ≤ 566) ∨ a = 569)) : gL H1 a b = gL H a b := by
  unfold gL
  rw [h a b hab]
/-- what the weeks leave behind too -/
def gFr (H H' : mjH) : Prop := ∀ a b, ¬ ((a = 78 ∧ 44 ≤ b ∧ b ≤ 47) ∨ a = 559 ∨ (561 ≤ a ∧ a ≤ 569)) → sxEl H' a b = sxEl H a b
theorem gFr.rf : gFr H H := fun _ _ _ => rfl
theorem gFr.tr {H2 : mjH} (h1 : gFr H H1) (h2 : mFr H1 H2) : gFr H H2 := fun a b h => (h2 a b (by omega)).trans (h1 a b h)
theorem gFr.put {a b : Nat} {v : Value} (h : gFr H H1) (hab : (a = 78 ∧ 44 ≤ b ∧ b ≤ 47) ∨ a = 559 ∨ (561 ≤ a ∧ a ≤ 569)) : gFr H (pV H1 a b v) := fun c d hcd => by
  rw [sxEl_ne (fun e => hcd (by rw [e.1, e.2]; exact hab))]
  exact h c d hcd
theorem gFr.vI {a b : Nat} (h : gFr H H1) (hab : ¬ ((a = 78 ∧ 44 ≤ b ∧ b ≤ 47) ∨ a = 559 ∨ (561 ≤ a ∧ a ≤ 569))) : gI H1 a b = gI H a b := by
  unfold gI
  rw [h a b hab]
theorem gFr.vL {a b : Nat} (h : gFr H H1) (hab : ¬ ((a = 78 ∧ 44 ≤ b ∧ b ≤ 47) ∨ a = 559 ∨ (561 ≤ a ∧ a ≤ 569))) : gL H1 a b = gL H a b := by
  unfold gL
  rw [h a b hab]
/-- sums over pieces -/
def sm (f : Nat → Int) : Nat → Int
  | 0 => 0
  | n + 1 => sm f n + f n
theorem sm_cg {f g : Nat → Int} : ∀ {n : Nat}, (∀ x, x < n → f x = g x) → sm f n = sm g n
  | 0, _ => rfl
  | n + 1, h => by
    unfold sm
    rw [sm_cg (n := n) (fun x hx => h x (by omega)), h n (by omega)]
theorem sm_U {f : Nat → Int} {k : Nat} {v : Int} : ∀ {n : Nat}, k < n → sm (yU f k v) n = sm f n - f k + v
  | 0, h => by omega
  | n + 1, h => by
    unfold sm
    by_cases e : k = n
    · subst e
      rw [yU_at, sm_cg (g := f) (fun x hx => yU_ne (by omega))]
      omega
    · rw [sm_U (n := n) (by omega), yU_ne (fun g => e g.symm)]
      omega
def cF (s : yR) : Int := sm (fun p => if s.fi p ≠ -1 ∧ s.fb p ≠ -1 then 1 else 0) 17
def cK (s : yR) : Int := sm (fun p => if s.fi p ≠ -1 ∧ s.fb p = -1 then 1 else 0) 17
def cH (s : yR) : Int := sm s.hu 17
/-- what the arrays tell of pieces -/
def mrP (H : mjH) (s : yR) : Prop := ∀ p, p < 17 → (gI H 562 p = Int32.ofInt (s.dr p) ∧ gI H 563 p = Int32.ofInt (s.fi p) ∧ gI H 564 p = Int32.ofInt (s.fb p)) ∧ (gI H 565 p = Int32.ofInt (s.wk p) ∧ gI H 566 p = Int32.ofInt (s.hu p)) ∧ ((-1 ≤ s.dr p ∧ s.dr p ≤ 51) ∧ -1 ≤ s.fi p ∧ s.fi p ≤ 51)
/-- the reference's arrays stand for this state -/
def mrA (H : mjH) (s : yR) : Prop := (gI H 78 44 = Int32.ofInt (s.hr.length : Int) ∧ ∀ (i x : Nat), s.hr[i]? = some x → gI H 561 i = Int32.ofInt (x : Int)) ∧ (s.hr.length ≤ 17 ∧ ∀ x, x ∈ s.hr → x < 17) ∧ s.hr.Nodup ∧ (∀ x, x ∈ s.hr → s.fi x = -1 ∧ s.fb x = -1) ∧ mrP H s ∧ gI H 78 45 = Int32.ofInt (cF s) ∧ gI H 78 46 = Int32.ofInt (cK s) ∧ gI H 78 47 = Int32.ofInt (cH s)
theorem mrP.cg (h : mrP H s) (hs : ∀ a b, 562 ≤ a → a ≤ 566 → gI H1 a b = gI H a b) : mrP H1 s := fun q hq => by
  obtain ⟨⟨h1, h2, h3⟩, ⟨h4, h5⟩, h6⟩ := h q hq
  exact ⟨⟨(hs _ _ (by omega) (by omega)).trans h1, (hs _ _ (by omega) (by omega)).trans h2, (hs _ _ (by omega) (by omega)).trans h3⟩, ⟨(hs _ _ (by omega) (by omega)).trans h4, (hs _ _ (by omega) (by omega)).trans h5⟩, h6⟩
/-- what a year rests on, as the reference has it -/
def mIn (H : mjH) (E : yE) : Prop := (∀ w p, w < 52 → p < 17 → (E.dead w p = true ↔ (gL H 86 p &&& gL H 89 w) = Int64.ofNat 0)) ∧ (∀ w o p, w < 52 → o < 17 → p < 17 → (E.fal w o p = true ↔ ((gL H 86 o &&& gL H 86 p) &&& gL H 89 w) = Int64.ofNat 0)) ∧ ∀ p, p < 17 → (E.tru p = true ↔ ((gL H 86 p >>> ((gI H 82 4).toInt64 &&& 63)) &&& Int64.ofNat 1) = Int64.ofNat 1)
theorem mFr.mIn (h : mFr H H1) (hE : mIn H E) : mIn H1 E := by
  refine ⟨fun w p hw hp => ?_, fun w o p hw ho hp => ?_, fun p hp => ?_⟩
  · rw [h.vL (by omega), h.vL (by omega)]
    exact hE.1 w p hw hp
  · rw [h.vL (by omega), h.vL (by omega), h.vL (by omega)]
    exact hE.2.1 w o p hw ho hp
  · rw [h.vL (by omega), h.vI (by omega)]
    exact hE.2.2 p hp
theorem gFr.mIn (h : gFr H H1) (hE : mIn H E) : mIn H1 E := by
  refine ⟨fun w p hw hp => ?_, fun w o p hw ho hp => ?_, fun p hp => ?_⟩
  · rw [h.vL (by omega), h.vL (by omega)]
    exact hE.1 w p hw hp
  · rw [h.vL (by omega), h.vL (by omega), h.vL (by omega)]
    exact hE.2.1 w o p hw ho hp
  · rw [h.vL (by omega), h.vI (by omega)]
    exact hE.2.2 p hp
theorem pm_dead (hT : HT H) (hE : mIn H E) (hp : p < 17) (hw : w < 52) (h : Pn none m 261 0 [(0, .ref 78), (1, .int (Int32.ofInt (p : Int))), (2, .int (Int32.ofInt (w : Int)))] [] H r H') : r = .inl (some (.int (Int32.ofInt (if E.dead w p = true then 1 else 0)))) ∧ H' = H := by
  obtain ⟨-, -, hb⟩ := m_isDead hT ⟨rfl, rfl, rfl, trivial⟩ h
  rw [zz_cn (n := p), zz_cn (n := w), lz_cmp, ← hE.1 w p hw hp] at hb
  rcases hb with ⟨c, e⟩ | ⟨c, e⟩
  · rw [if_neg c]
    exact e
  · rw [if_pos (Classical.not_not.mp c)]
    exact e
theorem pm_falls {o : Nat} (hT : HT H) (hE : mIn H E) (ho : o < 17) (hp : p < 17) (hw : w < 52) (h : Pn none m 250 0 [(0, .ref 78), (1, .int (Int32.ofInt (o : Int))), (2, .int (Int32.ofInt (p : Int))), (3, .int (Int32.ofInt (w : Int)))] [] H r H') : r = .inl (some (.int (Int32.ofInt (if E.fal w o p = true then 1 else 0)))) ∧ H' = H := by
  obtain ⟨-, -, -, hb⟩ := m_falls hT ⟨rfl, rfl, rfl, rfl, trivial⟩ h
  rw [zz_cn (n := o), zz_cn (n := p), zz_cn (n := w), lz_cmp, ← hE.2.1 w o p hw ho hp] at hb
  rcases hb with ⟨c, e⟩ | ⟨c, e⟩
  · rw [if_neg c]
    exact e
  · rw [if_pos (Classical.not_not.mp c)]
    exact e
theorem pm_true (hT : HT H) (hE : mIn H E) (hp : p < 17) (h : Pn none m 252 0 [(0, .ref 78), (1, .int (Int32.ofInt (p : Int)))] [] H r H') : r = .inl (some (.int (Int32.ofInt (if E.tru p = true then 1 else 0)))) ∧ H' = H := by
  obtain ⟨-, hb⟩ := m_isTrue hT ⟨rfl, rfl, trivial⟩ h
  rw [zz_cn (n := p), lz_cmp, ← hE.2.2 p hp] at hb
  rcases hb with ⟨c, e⟩ | ⟨c, e⟩
  · rw [if_neg c]
    exact e
  · rw [if_pos (Classical.not_not.mp c)]
    exact e
/-- one leaves the row of those that are held -/
theorem pm_leaL {l : List Nat} {k : Nat} (hk : k < l.length) (hl : l.length ≤ 17) : ∀ (m j : Nat) (L : mjL) (H : mjH), k ≤ j → j < l.length → HT H → gI H 78 44 = Int32.ofInt ((l.length : Int) - 1) → (∀ (i x : Nat), i < j → (l.eraseIdx k)[i]? = some x → gI H 561 i = Int32.ofInt (x : Int)) → (∀ (i x : Nat), j ≤ i → l[i]? = some x → gI H 561 i = Int32.ofInt (x : Int)) → LG L [(0, .ref 78), (2, .int (Int32.ofInt (j : Int)))] → Pn none m 262 12 L [] H r H' →
    r = .inl none ∧ HT H' ∧ (∀ a b, a ≠ 561 → sxEl H' a b = sxEl H a b) ∧ ∀ (i x : Nat), (l.eraseIdx k)[i]? = some x → gI H' 561 i = Int32.ofInt (x : Int)
  | 0, _, _, _, _, _, _, _, _, _, _, h => Pn0 h
  | m + 1, j, L, H, hkj, hj, hT, h44, h1, h2, hL, h => by
    have hb := m_leaL hT hL h
    rw [h44, zz_le, zz_cn (n := j)] at hb
    rcases hb with ⟨c, e1, e2⟩ | ⟨c, -, -, L', hL', h'⟩
    · rw [e2]
      refine ⟨e1, hT, fun _ _ _ => rfl, fun i x hx => ?_⟩
      have hi := (List.getElem?_eq_some_iff.mp hx).1
      rw [List.length_eraseIdx_of_lt hk] at hi
      exact h1 i x (by omega) hx
    · have hs : Int32.ofInt (j : Int) + Int32.ofInt 1 = Int32.ofInt ((j + 1 : Nat) : Int) := zz_add _ _
      rw [hs] at hL' h'
      rw [zz_cn (n := j + 1)] at h'
      have hj1 : j + 1 < l.length := by omega
      have hx : l[j + 1]? = some l[j + 1] := List.getElem?_eq_getElem hj1
      rw [h2 (j + 1) _ (by omega) hx] at h'
      have hT' := HT.pI (j := j) (x := Int32.ofInt ((l[j + 1] : Nat) : Int)) hT (kA_561_100_17_false)
      have hx1 : ∀ (i x : Nat), i < j + 1 → (l.eraseIdx k)[i]? = some x → gI (pV H 561 j (.int (Int32.ofInt ((l[j + 1] : Nat) : Int)))) 561 i = Int32.ofInt (x : Int) := by
        intro i x hi hx2
        by_cases g : i = j
        · rw [g] at hx2 ⊢
          rw [List.getElem?_eraseIdx_of_ge hkj, hx] at hx2
          cases hx2
          rw [gI_at hT (kA_561_100_17_false) (by omega)]
        · rw [gI_ne (by omega)]
          exact h1 i x (by omega) hx2
      obtain ⟨d1, d2, d3, d4⟩ := pm_leaL hk hl m (j + 1) L' _ (by omega) hj1 hT' (by rw [gI_ne (by omega)]; exact h44) hx1 (fun i x hi hx2 => by rw [gI_ne (by omega)]; exact h2 i x (by omega) hx2) hL' h'
      refine ⟨d1, d2, fun a b hab => ?_, d4⟩
      rw [d3 a b hab, sxEl_ne (fun g => hab g.1)]
theorem pm_lea {l : List Nat} {k : Nat} (hk : k < l.length) (hl : l.length ≤ 17) (hT : HT H) (h44 : gI H 78 44 = Int32.ofInt (l.length : Int)) (h2 : ∀ (i x : Nat), l[i]? = some x → gI H 561 i = Int32.ofInt (x : Int)) (h : Pn none m 262 0 [(0, .ref 78), (1, .int (Int32.ofInt (k : Int)))] [] H r H') :
    r = .inl none ∧ HT H' ∧ (∀ a b, a ≠ 561 → ¬ (a = 78 ∧ b = 44) → sxEl H' a b = sxEl H a b) ∧ gI H' 78 44 = Int32.ofInt ((l.eraseIdx k).length : Int) ∧ ∀ (i x : Nat), (l.eraseIdx k)[i]? = some x → gI H' 561 i = Int32.ofInt (x : Int) := by
  obtain ⟨L', hL, h'⟩ := m_lea0 hT ⟨rfl, rfl, trivial⟩ h
  rw [h44, zz_sub] at h'
  have t1 := HT.pFI (x := Int32.ofInt ((l.length : Int) - 1)) hT kF_78_44_9_false
  have hx1 : ∀ (i x : Nat), i < k → (l.eraseIdx k)[i]? = some x → gI (pV H 78 44 (.int (Int32.ofInt ((l.length : Int) - 1)))) 561 i = Int32.ofInt (x : Int) := by
    intro i x hi hx
    rw [List.getElem?_eraseIdx_of_lt hi] at hx
    rw [gI_ne (by omega)]
    exact h2 i x hx
  obtain ⟨d1, d2, d3, d4⟩ := pm_leaL hk hl m k L' _ (Nat.le_refl _) hk t1 (gI_fat hT kF_78_44_9_false) hx1 (fun i x hi hx => by rw [gI_ne (by omega)]; exact h2 i x hx) hL h'
  refine ⟨d1, d2, fun a b h1 h3 => by rw [d3 a b h1, sxEl_ne h3], ?_, d4⟩
  rw [gI_cgE (d3 78 44 (by decide)), gI_fat hT kF_78_44_9_false, List.length_eraseIdx_of_lt hk]
  exact congrArg Int32.ofInt (by omega)
theorem eraseMid {K rest : List Nat} {o : Nat} : (K ++ o :: rest).eraseIdx K.length = K ++ rest := by
  rw [List.eraseIdx_append_of_length_le (Nat.le_refl _), Nat.sub_self]
  rfl
/-- those that are dead leave -/
theorem pm_kilL {dr fb wk hu : Nat → Int} (hw : w < 52) (hE : mIn H0 E) : ∀ (m : Nat) (rest K : List Nat) (fi : Nat → Int) (L : mjL) (H : mjH), HT H → mFr H0 H → mrA H (K ++ rest, dr, fi, fb, wk, hu) → LG L [(0, .ref 78), (1, .int (Int32.ofInt (w : Int))), (2, .int (Int32.ofInt (K.length : Int)))] → Pn none m 263 2 L [] H r H' →
    r = .inl none ∧ HT H' ∧ mFr H0 H' ∧ mrA H' (K ++ rest.filter (fun x => !E.dead w x), dr, fun x => if x ∈ rest ∧ E.dead w x = true then (w : Int) else fi x, fb, wk, hu)
  | 0, _, _, _, _, _, _, _, _, _, h => Pn0 h
  | m + 1, rest, K, fi, L, H, hT, hF, hA, hL, h => by
    have hE1 := hF.mIn hE
    have hA2 := hA
    obtain ⟨⟨a1, a2⟩, ⟨a3, a4⟩, a5, a6, a7, a8, a9, a10⟩ := hA2
    have a1 : gI H 78 44 = Int32.ofInt ((K ++ rest).length : Int) := a1
    have a3 : (K ++ rest).length ≤ 17 := a3
    have hlen : (K ++ rest).length = K.length + rest.length := List.length_append
    have hb := m_kilL hT hL h
    rw [a1, zz_le, zz_cn (n := K.length)] at hb
    cases rest with
    | nil =>
      rcases hb with ⟨c, e1, e2⟩ | ⟨c, -⟩
      · rw [e2]
        refine ⟨e1, hT, hF, ?_⟩
        have e : (fun x => if x ∈ ([] : List Nat) ∧ E.dead w x = true then (w : Int) else fi x) = fi := by
          funext x
          exact if_neg (fun g => by cases g.1)
        rw [e]
        exact hA
      · simp only [List.length_nil] at hlen
        omega
    | cons o rest =>
      have hl2 : (o :: rest).length = rest.length + 1 := rfl
      rcases hb with ⟨c, -⟩ | ⟨c, -, L', hL', r2, H2, q, k⟩
      · omega
      have eo : (K ++ o :: rest)[K.length]? = some o := by
        rw [List.getElem?_append_right (Nat.le_refl _), Nat.sub_self]
        rfl
      have hom : o ∈ K ++ o :: rest := List.mem_append_right _ List.mem_cons_self
      have ho17 := a4 o hom
      rw [a2 K.length o eo] at q hL'
      obtain ⟨d1, d2⟩ := pm_dead hT hE1 ho17 hw q
      subst d1
      rw [d2] at k
      have h2 := pn_ret k
      have hb := m_kil1 hT hL' h2
      have hnd := (List.nodup_append.mp a5)
      have hor : ¬ o ∈ rest := (List.nodup_cons.mp hnd.2.1).1
      by_cases hd : E.dead w o = true
      · rw [if_pos hd] at hb
        rcases hb with ⟨c, -⟩ | ⟨-, -, L2, hL2, r3, H3, q3, k3⟩
        · rw [zz_eq] at c
          omega
        rw [zz_cn (n := o)] at q3
        have t1 := HT.pI (j := o) (x := Int32.ofInt (w : Int)) hT kA_563_100_17_false
        have t2 := HT.pFI (x := gI H 78 46 + Int32.ofInt 1) t1 kF_78_46_9_false
        obtain ⟨u1, u2, u3, u4, u5⟩ := pm_lea (l := K ++ o :: rest) (k := K.length) (by omega) a3 t2 (by rw [gI_ne (by omega), gI_ne (by omega)]; exact a1) (fun i x hx => by rw [gI_ne (by omega), gI_ne (by omega)]; exact a2 i x hx) q3
        subst u1
        rw [eraseMid] at u4 u5
        have h3 := pn_ret k3
        obtain ⟨L3, hL3, h4⟩ := m_kil2 u2 hL2 h3
        have v1 : ∀ a b, a ≠ 561 → ¬ (a = 78 ∧ b = 44) → gI H3 a b = gI (pV (pV H 563 o (.int (Int32.ofInt (w : Int)))) 78 46 (.int (gI H 78 46 + Int32.ofInt 1))) a b := fun a b q1 q2 => gI_cgE (u3 a b q1 q2)
        have hfo := a6 o hom
        have key : mrA H3 (K ++ rest, dr, yU fi o w, fb, wk, hu) := by
          refine ⟨⟨u4, u5⟩, ⟨?_, fun x hx => a4 x ?_⟩, List.Sublist.nodup (List.Sublist.append (List.Sublist.refl K) (List.sublist_cons_self o rest)) a5, fun x hx => ?_, fun q hq => ?_, ?_, ?_, ?_⟩
          · show (K ++ rest).length ≤ 17
            rw [List.length_append]
            omega
          · have hx : x ∈ K ++ rest := hx
            rcases List.mem_append.mp hx with g | g
            · exact List.mem_append_left _ g
            · exact List.mem_append_right _ (List.mem_cons_of_mem _ g)
          · have hx : x ∈ K ++ rest := hx
            have hxo : x ≠ o := fun g => by
              rw [g] at hx
              rcases List.mem_append.mp hx with g2 | g2
              · exact hnd.2.2 o g2 o List.mem_cons_self rfl
              · exact hor g2
            have := a6 x (by
              rcases List.mem_append.mp hx with g | g
              · exact List.mem_append_left _ g
              · exact List.mem_append_right _ (List.mem_cons_of_mem _ g))
            exact ⟨(yU_ne hxo).trans this.1, this.2⟩
          · obtain ⟨⟨h1, h2, h3⟩, ⟨h4, h5⟩, h6, h7⟩ := a7 q hq
            have g1 : gI H3 562 q = gI H 562 q := by rw [v1 _ _ (by omega) (by omega), gI_ne (by omega), gI_ne (by omega)]
            have g3 : gI H3 564 q = gI H 564 q := by rw [v1 _ _ (by omega) (by omega), gI_ne (by omega), gI_ne (by omega)]
            have g4 : gI H3 565 q = gI H 565 q := by rw [v1 _ _ (by omega) (by omega), gI_ne (by omega), gI_ne (by omega)]
            have g5 : gI H3 566 q = gI H 566 q := by rw [v1 _ _ (by omega) (by omega), gI_ne (by omega), gI_ne (by omega)]
            by_cases g : q = o
            · have g := g.symm
              subst g
              refine ⟨⟨g1.trans h1, ?_, g3.trans h3⟩, ⟨g4.trans h4, g5.trans h5⟩, h6, ?_⟩
              · show _ = Int32.ofInt (yU fi o w o)
                rw [yU_at, v1 _ _ (by omega) (by omega), gI_ne (by omega), gI_at hT kA_563_100_17_false hq]
              · show -1 ≤ yU fi o w o ∧ yU fi o w o ≤ 51
                rw [yU_at]
                omega
            · refine ⟨⟨g1.trans h1, ?_, g3.trans h3⟩, ⟨g4.trans h4, g5.trans h5⟩, h6, ?_⟩
              · show _ = Int32.ofInt (yU fi o w q)
                rw [yU_ne g, v1 _ _ (by omega) (by omega), gI_ne (by omega), gI_ne (by omega)]
                exact h2
              · show -1 ≤ yU fi o w q ∧ yU fi o w q ≤ 51
                rw [yU_ne g]
                exact h7
          · rw [v1 _ _ (by omega) (by omega), gI_ne (by omega), gI_ne (by omega)]
            rw [a8]
            refine congrArg Int32.ofInt (sm_cg (fun x hx => ?_))
            show (if fi x ≠ -1 ∧ fb x ≠ -1 then (1 : Int) else 0) = if yU fi o w x ≠ -1 ∧ fb x ≠ -1 then 1 else 0
            by_cases g : x = o
            · rw [g, if_neg (fun z => z.2 hfo.2), if_neg (fun z => z.2 hfo.2)]
            · rw [yU_ne g]
          · rw [v1 _ _ (by omega) (by omega), gI_fat t1 kF_78_46_9_false, a9, zz_add]
            refine congrArg Int32.ofInt ?_
            have e : cK (K ++ rest, dr, yU fi o w, fb, wk, hu) = sm (yU (fun p => if fi p ≠ -1 ∧ fb p = -1 then 1 else 0) o 1) 17 := by
              refine sm_cg (fun x hx => ?_)
              show (if yU fi o w x ≠ -1 ∧ fb x = -1 then (1 : Int) else 0) = _
              by_cases g : x = o
              · rw [g, yU_at, yU_at, if_pos ⟨by omega, hfo.2⟩]
              · rw [yU_ne g, yU_ne g]
            rw [e, sm_U ho17]
            show cK (K ++ o :: rest, dr, fi, fb, wk, hu) + 1 = sm (fun p => if fi p ≠ -1 ∧ fb p = -1 then 1 else 0) 17 - (if fi o ≠ -1 ∧ fb o = -1 then 1 else 0) + 1
            rw [if_neg (fun z => z.1 hfo.1)]
            show sm (fun p => if fi p ≠ -1 ∧ fb p = -1 then 1 else 0) 17 + 1 = _
            omega
          · rw [v1 _ _ (by omega) (by omega), gI_ne (by omega), gI_ne (by omega)]
            exact a10
        have hF3 : mFr H0 H3 := fun a b hab => by
          rw [u3 a b (by omega) (by omega), sxEl_ne (by omega), sxEl_ne (by omega)]
          exact hF a b hab
        obtain ⟨f1, f2, f3, f4⟩ := pm_kilL hw hE m rest K (yU fi o w) L3 H3 u2 hF3 key hL3 h4
        refine ⟨f1, f2, f3, ?_⟩
        have e1 : (o :: rest).filter (fun x => !E.dead w x) = rest.filter (fun x => !E.dead w x) := by
          rw [List.filter_cons, if_neg (by rw [hd]; decide)]
        have e2 : (fun x => if x ∈ o :: rest ∧ E.dead w x = true then (w : Int) else fi x) = (fun x => if x ∈ rest ∧ E.dead w x = true then (w : Int) else yU fi o w x) := by
          funext x
          by_cases g : x = o
          · rw [g, if_pos ⟨List.mem_cons_self, hd⟩, if_neg (fun z => hor z.1), yU_at]
          · rw [yU_ne g]
            by_cases g2 : x ∈ rest ∧ E.dead w x = true
            · rw [if_pos g2, if_pos ⟨List.mem_cons_of_mem _ g2.1, g2.2⟩]
            · rw [if_neg g2, if_neg (fun z => g2 ⟨(List.mem_cons.mp z.1).resolve_left g, z.2⟩)]
        rw [e1, e2]
        exact f4
      · rw [if_neg hd] at hb
        rcases hb with ⟨-, L2, hL2, h3⟩ | ⟨c, -⟩
        · have e0 : K ++ o :: rest = (K ++ [o]) ++ rest := by rw [List.append_assoc]; rfl
          have hA3 : mrA H ((K ++ [o]) ++ rest, dr, fi, fb, wk, hu) := by
            rw [← e0]
            exact hA
          obtain ⟨f1, f2, f3, f4⟩ := pm_kilL hw hE m rest (K ++ [o]) fi L2 H hT hF hA3 (by
            obtain ⟨g0, g1, g2, -⟩ := hL2
            refine ⟨g0, g1, ?_, trivial⟩
            rw [g2, zz_add, List.length_append]
            rfl) h3
          refine ⟨f1, f2, f3, ?_⟩
          have e1 : K ++ (o :: rest).filter (fun x => !E.dead w x) = (K ++ [o]) ++ rest.filter (fun x => !E.dead w x) := by
            rw [List.filter_cons, if_pos (by simp [hd]), List.append_assoc]
            rfl
          have e2 : (fun x => if x ∈ o :: rest ∧ E.dead w x = true then (w : Int) else fi x) = (fun x => if x ∈ rest ∧ E.dead w x = true then (w : Int) else fi x) := by
            funext x
            by_cases g : x = o
            · rw [g, if_neg (fun z => hd z.2), if_neg (fun z => hd z.2)]
            · by_cases g2 : x ∈ rest ∧ E.dead w x = true
              · rw [if_pos g2, if_pos ⟨List.mem_cons_of_mem _ g2.1, g2.2⟩]
              · rw [if_neg g2, if_neg (fun z => g2 ⟨(List.mem_cons.mp z.1).resolve_left g, z.2⟩)]
          rw [e1, e2]
          exact f4
        · exact absurd rfl c
theorem pm_kills (hT : HT H) (hw : w < 52) (hE : mIn H E) (hA : mrA H s) (h : Pn none m 263 0 [(0, .ref 78), (1, .int (Int32.ofInt (w : Int)))] [] H r H') : r = .inl none ∧ HT H' ∧ mFr H H' ∧ mrA H' (yrK E w s) := by
  obtain ⟨L', hL, h'⟩ := m_kil0 hT ⟨rfl, rfl, trivial⟩ h
  exact pm_kilL (K := []) hw hE m s.hr s.fi L' H hT mFr.rf hA hL h'
end PCMR

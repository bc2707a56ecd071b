/-! PC: who falls: both sides -/
section PCWH
variable {m : Nat} {L : mjL} {H H' H0 H1 : mjH} {r : Option Value ⊕ Nat} {E : yE} {Y J Q : Nat}
/-- who falls, by a law -/
def whoOf (law : Int) (md lf : Nat → Int64) (rs : tgRu) (o p : Nat) (a h n : Int) (w : Nat) : Int := if law = 0 then 0 else if law = 1 then 1 else if law = 2 then 2 else if law = 3 then (if pp (md p) ≤ pp (md o) then 1 else 2) else tmW (qv md lf o p a h n w) rs
theorem whoOf_rg {law : Int} {md lf : Nat → Int64} {rs : tgRu} {o p : Nat} {a h n : Int} {w : Nat} (hok : tgOk rs) : whoOf law md lf rs o p a h n w = 0 ∨ whoOf law md lf rs o p a h n w = 1 ∨ whoOf law md lf rs o p a h n w = 2 := by
  unfold whoOf
  by_cases c0 : law = 0
  · rw [if_pos c0]
    exact Or.inl rfl
  rw [if_neg c0]
  by_cases c1 : law = 1
  · rw [if_pos c1]
    exact Or.inr (Or.inl rfl)
  rw [if_neg c1]
  by_cases c2 : law = 2
  · rw [if_pos c2]
    exact Or.inr (Or.inr rfl)
  rw [if_neg c2]
  by_cases c3 : law = 3
  · rw [if_pos c3]
    split
    · exact Or.inr (Or.inl rfl)
    · exact Or.inr (Or.inr rfl)
  rw [if_neg c3]
  exact tmW_rg hok
theorem pp_le (x : Int64) : pp x ≤ 64 := pN_le 64 _
/-- the rules of the reference's TONGUE -/
def tmRu (H : mjH) (rs : tgRu) (fr : Nat → Nat) : Prop := (gI H 78 25 = Int32.ofInt (rs.length : Int) ∧ rs.length ≤ 10) ∧ ∀ (i : Nat) (q : Int × List (Int × Int)), rs[i]? = some q → gI H (96 + i) 0 = Int32.ofInt q.1 ∧ gI H (96 + i) 1 = Int32.ofInt (fr i : Int) ∧ gI H (96 + i) 2 = Int32.ofInt ((fr i + q.2.length : Nat) : Int) ∧ fr i + q.2.length ≤ 220 ∧ tmCo H (fr i) q.2
theorem tmCo.cg {a0 : Nat} {seg : List (Int × Int)} (h : tmCo H a0 seg) (hl : a0 + seg.length ≤ 220) (hs : ∀ a b, a ≠ 559 → a ≠ 569 → sxEl H1 a b = sxEl H a b) : tmCo H1 a0 seg := fun i q hq => by
  have hi := (List.getElem?_eq_some_iff.mp hq).1
  obtain ⟨u1, u2, u3⟩ := h i q hq
  have v1 : ∀ a b, a ≠ 559 → a ≠ 569 → gI H1 a b = gI H a b := fun a b q1 q2 => by
    unfold gI
    rw [hs a b q1 q2]
  exact ⟨(v1 _ _ (by omega) (by omega)).trans u1, (v1 _ _ (by omega) (by omega)).trans u2, u3⟩
theorem tmRu.cg {rs : tgRu} {fr : Nat → Nat} (h : tmRu H rs fr) (hs : ∀ a b, a ≠ 559 → a ≠ 569 → sxEl H1 a b = sxEl H a b) : tmRu H1 rs fr := by
  have v1 : ∀ a b, a ≠ 559 → a ≠ 569 → gI H1 a b = gI H a b := fun a b q1 q2 => by
    unfold gI
    rw [hs a b q1 q2]
  refine ⟨⟨(v1 _ _ (by omega) (by omega)).trans h.1.1, h.1.2⟩, fun i q hq => ?_⟩
  have hi := (List.getElem?_eq_some_iff.mp hq).1
  have h10 := h.1.2
  obtain ⟨u1, u2, u3, u4, u5⟩ := h.2 i q hq
  exact ⟨(v1 _ _ (by omega) (by omega)).trans u1, (v1 _ _ (by omega) (by omega)).trans u2, (v1 _ _ (by omega) (by omega)).trans u3, u4, u5.cg u4 hs⟩
theorem pm_so {a0 : Nat} {seg : List (Int × Int)} {md lf : Nat → Int64} {o p : Nat} {a hu n : Int} {w : Nat} {z : Int32} (hlen : a0 + seg.length ≤ 220) (hT : HT H) (hco : tmCo H a0 seg) (ht : tmT H md lf o p a hu n w) (hz : tmS (qv md lf o p a hu n w) seg [] = [z]) (h : Pn none m 239 0 [(0, .ref 78), (1, .int (Int32.ofInt (a0 : Int))), (2, .int (Int32.ofInt ((a0 + seg.length : Nat) : Int)))] [] H r H') :
    r = .inl (some (.int (Int32.ofInt (if z = Int32.ofInt 1 then 1 else 0)))) ∧ HT H' ∧ ∀ a b, a ≠ 559 → sxEl H' a b = sxEl H a b := by
  obtain ⟨L', hL, h'⟩ := m_so0 hT ⟨rfl, rfl, rfl, trivial⟩ h
  exact pm_soL (H0 := H) hlen m 0 [] L' H (Nat.zero_le _) (Nat.zero_le _) hT (fun _ _ _ => rfl) hco ht (fun i x hx => absurd hx (by simp)) hz hL h'
theorem pm_btL {rs : tgRu} {fr : Nat → Nat} {md lf : Nat → Int64} {o p : Nat} {a hu n : Int} {w : Nat} (hok : tgOk rs) (hr : tmRu H0 rs fr) (ht : tmT H0 md lf o p a hu n w) : ∀ (m i : Nat) (L : mjL) (H : mjH), i ≤ rs.length → HT H → (∀ a b, a ≠ 559 → sxEl H a b = sxEl H0 a b) → LG L [(0, .ref 78), (7, .int (Int32.ofInt (i : Int)))] → Pn none m 240 48 L [] H r H' →
    r = .inl (some (.int (Int32.ofInt (tmW (qv md lf o p a hu n w) (rs.drop i))))) ∧ HT H' ∧ ∀ a b, a ≠ 559 → sxEl H' a b = sxEl H0 a b
  | 0, _, _, _, _, _, _, _, h => Pn0 h
  | m + 1, i, L, H, hi, hT, hF, hL, h => by
    have v1 : ∀ a b, a ≠ 559 → gI H a b = gI H0 a b := fun a b q => by
      unfold gI
      rw [hF a b q]
    have h10 := hr.1.2
    have hb := m_btL hT hL h
    rw [v1 78 25 (by omega), hr.1.1, zz_le, zz_cn (n := i)] at hb
    rcases hb with ⟨c, e1, e2⟩ | ⟨c, -, L', hL', r2, H2, q, k⟩
    · have e0 : i = rs.length := by omega
      rw [e2, e0, List.drop_length]
      exact ⟨e1, hT, hF⟩
    have hi2 : i < rs.length := by omega
    have hx : rs[i]? = some rs[i] := List.getElem?_eq_getElem hi2
    have hdr : rs.drop i = rs[i] :: rs.drop (i + 1) := List.drop_eq_getElem_cons hi2
    generalize rs[i] = c0 at hx hdr
    obtain ⟨u1, u2, u3, u4, u5⟩ := hr.2 i c0 hx
    rw [v1 (96 + i) 1 (by omega), v1 (96 + i) 2 (by omega), u2, u3] at q
    obtain ⟨-, D, d, hD, hd, hb01⟩ := hok c0 (List.mem_of_getElem? hx)
    have m1 := (hd (qv md lf o p a hu n w)).2 [] []
    rw [List.append_nil] at m1
    have m2 : tmS (qv md lf o p a hu n w) c0.2 [] = [d (qv md lf o p a hu n w)] := m1
    obtain ⟨d1, d2, d3⟩ := pm_so u4 hT (u5.cg u4 (fun a b q1 _ => hF a b q1)) (ht.cg hF) m2 q
    subst d1
    have hb := m_bt1 d2 hL' (pn_ret k)
    have hF2 : ∀ a b, a ≠ 559 → sxEl H2 a b = sxEl H0 a b := fun a b g => (d3 a b g).trans (hF a b g)
    have v2 : ∀ a b, a ≠ 559 → gI H2 a b = gI H0 a b := fun a b g => by
      unfold gI
      rw [hF2 a b g]
    have hw1 : tmW (qv md lf o p a hu n w) (rs.drop i) = if d (qv md lf o p a hu n w) = Int32.ofInt 1 then c0.1 else tmW (qv md lf o p a hu n w) (rs.drop (i + 1)) := by
      rw [hdr]
      show (if tmS (qv md lf o p a hu n w) c0.2 [] = [Int32.ofInt 1] then c0.1 else tmW (qv md lf o p a hu n w) (rs.drop (i + 1))) = _
      rw [m2]
      by_cases g : d (qv md lf o p a hu n w) = Int32.ofInt 1
      · rw [if_pos g, if_pos (by rw [g])]
      · rw [if_neg g, if_neg (fun e => g (by injection e))]
    rw [hw1]
    rw [zz_cn (n := i), v2 (96 + i) 0 (by omega), u1] at hb
    have hs : Int32.ofInt (i : Int) + Int32.ofInt 1 = Int32.ofInt ((i + 1 : Nat) : Int) := zz_add _ _
    by_cases g : d (qv md lf o p a hu n w) = Int32.ofInt 1
    · rw [if_pos g]
      rw [if_pos g] at hb
      rcases hb with ⟨c, -⟩ | ⟨-, -, e1, e2⟩
      · exact absurd c (by decide)
      · rw [e2]
        exact ⟨e1, d2, hF2⟩
    · rw [if_neg g]
      rw [if_neg g] at hb
      rcases hb with ⟨-, L2, hL2, h3⟩ | ⟨c, -⟩
      · rw [hs] at hL2
        exact pm_btL hok hr ht m (i + 1) L2 H2 hi2 d2 hF2 hL2 h3
      · exact absurd rfl c
theorem pm_bt {rs : tgRu} {fr : Nat → Nat} {md lf : Nat → Int64} {o p : Nat} {a hu n : Int} {w : Nat} (ho : o < 17) (hp : p < 17) (hw : w < 52) (hok : tgOk rs) (hT : HT H) (hr : tmRu H rs fr) (hmo : gL H 86 o = md o) (hmp : gL H 86 p = md p) (hlf : gL H 89 w = lf w) (h : Pn none m 240 0 [(0, .ref 78), (1, .int (Int32.ofInt (o : Int))), (2, .int (Int32.ofInt (p : Int))), (3, .int (Int32.ofInt a)), (4, .int (Int32.ofInt hu)), (5, .int (Int32.ofInt n)), (6, .int (Int32.ofInt (w : Int)))] [] H r H') :
    r = .inl (some (.int (Int32.ofInt (tmW (qv md lf o p a hu n w) rs)))) ∧ HT H' ∧ ∀ a b, a ≠ 559 → a ≠ 569 → sxEl H' a b = sxEl H a b := by
  obtain ⟨L', hL, h'⟩ := m_bt0 hT ⟨rfl, rfl, rfl, rfl, rfl, rfl, rfl, trivial⟩ h
  have t1 := HT.pI (j := 0) (x := Int32.ofInt (o : Int)) hT kA_569_100_6_false
  have t2 := HT.pI (j := 1) (x := Int32.ofInt (p : Int)) t1 kA_569_100_6_false
  have t3 := HT.pI (j := 2) (x := Int32.ofInt a) t2 kA_569_100_6_false
  have t4 := HT.pI (j := 3) (x := Int32.ofInt hu) t3 kA_569_100_6_false
  have t5 := HT.pI (j := 4) (x := Int32.ofInt n) t4 kA_569_100_6_false
  have t6 := HT.pI (j := 5) (x := Int32.ofInt (w : Int)) t5 kA_569_100_6_false
  have hF : ∀ a0 b, a0 ≠ 569 → sxEl (pV (pV (pV (pV (pV (pV H 569 0 (.int (Int32.ofInt (o : Int)))) 569 1 (.int (Int32.ofInt (p : Int)))) 569 2 (.int (Int32.ofInt a))) 569 3 (.int (Int32.ofInt hu))) 569 4 (.int (Int32.ofInt n))) 569 5 (.int (Int32.ofInt (w : Int)))) a0 b = sxEl H a0 b := fun a0 b g => by
    rw [sxEl_ne (by omega), sxEl_ne (by omega), sxEl_ne (by omega), sxEl_ne (by omega), sxEl_ne (by omega), sxEl_ne (by omega)]
  have g0 : gI (pV (pV (pV (pV (pV (pV H 569 0 (.int (Int32.ofInt (o : Int)))) 569 1 (.int (Int32.ofInt (p : Int)))) 569 2 (.int (Int32.ofInt a))) 569 3 (.int (Int32.ofInt hu))) 569 4 (.int (Int32.ofInt n))) 569 5 (.int (Int32.ofInt (w : Int)))) 569 0 = Int32.ofInt (o : Int) := by
    rw [gI_ne (by omega), gI_ne (by omega), gI_ne (by omega), gI_ne (by omega), gI_ne (by omega), gI_at hT kA_569_100_6_false (by omega)]
  have g1 : gI (pV (pV (pV (pV (pV (pV H 569 0 (.int (Int32.ofInt (o : Int)))) 569 1 (.int (Int32.ofInt (p : Int)))) 569 2 (.int (Int32.ofInt a))) 569 3 (.int (Int32.ofInt hu))) 569 4 (.int (Int32.ofInt n))) 569 5 (.int (Int32.ofInt (w : Int)))) 569 1 = Int32.ofInt (p : Int) := by
    rw [gI_ne (by omega), gI_ne (by omega), gI_ne (by omega), gI_ne (by omega), gI_at t1 kA_569_100_6_false (by omega)]
  have g2 : gI (pV (pV (pV (pV (pV (pV H 569 0 (.int (Int32.ofInt (o : Int)))) 569 1 (.int (Int32.ofInt (p : Int)))) 569 2 (.int (Int32.ofInt a))) 569 3 (.int (Int32.ofInt hu))) 569 4 (.int (Int32.ofInt n))) 569 5 (.int (Int32.ofInt (w : Int)))) 569 2 = Int32.ofInt a := by
    rw [gI_ne (by omega), gI_ne (by omega), gI_ne (by omega), gI_at t2 kA_569_100_6_false (by omega)]
  have g3 : gI (pV (pV (pV (pV (pV (pV H 569 0 (.int (Int32.ofInt (o : Int)))) 569 1 (.int (Int32.ofInt (p : Int)))) 569 2 (.int (Int32.ofInt a))) 569 3 (.int (Int32.ofInt hu))) 569 4 (.int (Int32.ofInt n))) 569 5 (.int (Int32.ofInt (w : Int)))) 569 3 = Int32.ofInt hu := by
    rw [gI_ne (by omega), gI_ne (by omega), gI_at t3 kA_569_100_6_false (by omega)]
  have g4 : gI (pV (pV (pV (pV (pV (pV H 569 0 (.int (Int32.ofInt (o : Int)))) 569 1 (.int (Int32.ofInt (p : Int)))) 569 2 (.int (Int32.ofInt a))) 569 3 (.int (Int32.ofInt hu))) 569 4 (.int (Int32.ofInt n))) 569 5 (.int (Int32.ofInt (w : Int)))) 569 4 = Int32.ofInt n := by
    rw [gI_ne (by omega), gI_at t4 kA_569_100_6_false (by omega)]
  have g5 : gI (pV (pV (pV (pV (pV (pV H 569 0 (.int (Int32.ofInt (o : Int)))) 569 1 (.int (Int32.ofInt (p : Int)))) 569 2 (.int (Int32.ofInt a))) 569 3 (.int (Int32.ofInt hu))) 569 4 (.int (Int32.ofInt n))) 569 5 (.int (Int32.ofInt (w : Int)))) 569 5 = Int32.ofInt (w : Int) := by
    rw [gI_at t5 kA_569_100_6_false (by omega)]
  generalize pV (pV (pV (pV (pV (pV H 569 0 (.int (Int32.ofInt (o : Int)))) 569 1 (.int (Int32.ofInt (p : Int)))) 569 2 (.int (Int32.ofInt a))) 569 3 (.int (Int32.ofInt hu))) 569 4 (.int (Int32.ofInt n))) 569 5 (.int (Int32.ofInt (w : Int))) = G at h' t6 hF g0 g1 g2 g3 g4 g5
  have v2 : ∀ a b, a ≠ 569 → gL G a b = gL H a b := fun a b g => by
    unfold gL
    rw [hF a b g]
  have ht : tmT G md lf o p a hu n w := ⟨⟨g0, g1, g2⟩, ⟨g3, g4, g5⟩, ⟨(v2 _ _ (by omega)).trans hmo, (v2 _ _ (by omega)).trans hmp, (v2 _ _ (by omega)).trans hlf⟩, ho, hp, hw⟩
  obtain ⟨u1, u2, u3⟩ := pm_btL hok (hr.cg (fun a b _ g => hF a b g)) ht m 0 L' G (Nat.zero_le _) t6 (fun _ _ _ => rfl) hL h'
  exact ⟨u1, u2, fun a b q1 q2 => (u3 a b q1).trans (hF a b q2)⟩
/-- the reference's law, and what it rests on -/
def mLw (H : mjH) (law : Int) (md lf : Nat → Int64) (rs : tgRu) (fr : Nat → Nat) : Prop := (gI H 78 48 = Int32.ofInt law ∧ 0 ≤ law ∧ law ≤ 4) ∧ (∀ q, q < 17 → gL H 86 q = md q) ∧ (∀ v, v < 52 → gL H 89 v = lf v) ∧ tmRu H rs fr
theorem pm_mWo {law : Int} {md lf : Nat → Int64} {rs : tgRu} {fr : Nat → Nat} {wk hu : Nat → Int} {w p : Nat} (hw : w < 52) (hp : p < 17) (hok : tgOk rs) (hE : ∀ o p a h n w, E.who o p a h n w = whoOf law md lf rs o p a h n w) (hl : mLw H0 law md lf rs fr) : mWo E H0 wk hu w p := by
  intro m H r H' o z hT hF h48 ho hwk hhu h44 hz0 hz1 h
  obtain ⟨⟨l1, l2, l3⟩, l4, l5, l6⟩ := hl
  have hb := m_wf0 hT ⟨rfl, rfl, rfl, rfl, trivial⟩ h
  rw [h48, l1, zz_ti, zz_cn (n := o), hwk, hhu, h44, hF.vL (by omega), l4 o ho] at hb
  rw [hE]
  unfold whoOf
  rcases hb with ⟨c, -, L', hL', r2, H2, q, k⟩ | ⟨c, e1, e2⟩ | ⟨c, e1, e2⟩ | ⟨c, e1, e2⟩ | ⟨c, -, L', hL', r2, H2, q, k⟩
  · rw [if_neg (by omega), if_neg (by omega), if_neg (by omega), if_neg (by omega)]
    have hr2 : tmRu H rs fr := by
      have v1 : ∀ a b, ¬ ((a = 78 ∧ 44 ≤ b ∧ b ≤ 47) ∨ a = 559 ∨ (561 ≤ a ∧ a ≤ 566) ∨ a = 569) → gI H a b = gI H0 a b := fun a b g => hF.vI g
      refine ⟨⟨(v1 _ _ (by omega)).trans l6.1.1, l6.1.2⟩, fun i q hq => ?_⟩
      have hi := (List.getElem?_eq_some_iff.mp hq).1
      have h10 := l6.1.2
      obtain ⟨u1, u2, u3, u4, u5⟩ := l6.2 i q hq
      refine ⟨(v1 _ _ (by omega)).trans u1, (v1 _ _ (by omega)).trans u2, (v1 _ _ (by omega)).trans u3, u4, fun j s hj => ?_⟩
      have hj2 := (List.getElem?_eq_some_iff.mp hj).1
      obtain ⟨w1, w2, w3⟩ := u5 j s hj
      exact ⟨(v1 _ _ (by omega)).trans w1, (v1 _ _ (by omega)).trans w2, w3⟩
    obtain ⟨d1, d2, d3⟩ := pm_bt (md := md) (lf := lf) ho hp hw hok hT hr2 ((hF.vL (by omega)).trans (l4 o ho)) ((hF.vL (by omega)).trans (l4 p hp)) ((hF.vL (by omega)).trans (l5 w hw)) q
    subst d1
    obtain ⟨e1, e2⟩ := m_wf3 d2 hL' (pn_ret k)
    rw [e2]
    exact ⟨e1, d2, d3⟩
  · rw [if_pos c, e2]
    exact ⟨e1, hT, fun _ _ _ _ => rfl⟩
  · rw [if_neg (by omega), if_pos c, e2]
    exact ⟨e1, hT, fun _ _ _ _ => rfl⟩
  · rw [if_neg (by omega), if_neg (by omega), if_pos c, e2]
    exact ⟨e1, hT, fun _ _ _ _ => rfl⟩
  · rw [if_neg (by omega), if_neg (by omega), if_neg (by omega), if_pos c]
    obtain ⟨d1, d2⟩ := pm_ones hT q
    subst d1
    rw [d2] at k
    obtain ⟨-, L2, hL2, r3, H3, q3, k3⟩ := m_wf1 hT hL' (pn_ret k)
    rw [zz_cn (n := p), hF.vL (by omega), l4 p hp] at q3
    obtain ⟨d3, d4⟩ := pm_ones hT q3
    subst d3
    rw [d4] at k3
    have hb := m_wf2 hT hL2 (pn_ret k3)
    have b1 := pp_le (md o)
    have b2 := pp_le (md p)
    rw [zz_le] at hb
    rcases hb with ⟨g, e1, e2⟩ | ⟨g, e1, e2⟩
    · rw [if_pos (by omega), e2]
      exact ⟨e1, hT, fun _ _ _ _ => rfl⟩
    · rw [if_neg (by omega), e2]
      exact ⟨e1, hT, fun _ _ _ _ => rfl⟩
/-- the JDK's count of bits -/
theorem pc_bc {x : Int64} (hT : HT H) (h : Pn none m 329 0 [(0, .long x)] [] H r H') : r = .inl (some (.int (Int32.ofInt (pp x : Int)))) ∧ H' = H := by
  obtain ⟨L1, hL1, h1⟩ := c_bc0 hT ⟨rfl, trivial⟩ h
  obtain ⟨L2, hL2, h2⟩ := c_bc1 hT hL1 h1
  obtain ⟨L3, hL3, h3⟩ := c_bc2 hT hL2 h2
  obtain ⟨L4, hL4, h4⟩ := c_bc3 hT hL3 h3
  obtain ⟨L5, hL5, h5⟩ := c_bc4 hT hL4 h4
  obtain ⟨L6, hL6, h6⟩ := c_bc5 hT hL5 h5
  obtain ⟨e1, e2⟩ := c_bc6 hT hL6 h6
  refine ⟨e1.trans (congrArg (fun z => Sum.inl (some (Value.int z))) (Int32.toInt_inj.mp ?_)), e2⟩
  have key := sw64 (T := 0) x.toInt 1 2 4 8 16 32 6148914691236517205 3689348814741910323 1085102592571150095 rfl rfl rfl rfl rfl rfl rfl rfl rfl
  have q2 : ∀ a b : Int, sxSem 0 2 a b = (Int32.ofInt a &&& Int32.ofInt b).toInt := fun _ _ => rfl
  have q20 : ∀ a b : Int, sxSem 0 20 a b = ((Int64.ofInt a).toInt32).toInt := fun _ _ => rfl
  have q9 : ∀ a b : Int, sxSem 0 9 a b = (Int64.ofInt a + Int64.ofInt b).toInt := fun _ _ => rfl
  have q10 : ∀ a b : Int, sxSem 0 10 a b = (Int64.ofInt a - Int64.ofInt b).toInt := fun _ _ => rfl
  have q12 : ∀ a b : Int, sxSem 0 12 a b = (Int64.ofInt a &&& Int64.ofInt b).toInt := fun _ _ => rfl
  have q18 : ∀ a b : Int, sxSem 0 18 a b = (((Int64.ofInt a).toUInt64 >>> ((Int32.ofInt b).toInt64.toUInt64 &&& Int64.toUInt64 63)).toInt64.toInt) := fun _ _ => rfl
  have c5 : Int64.ofInt 6148914691236517205 = Int64.ofNat 6148914691236517205 := by decide
  have c3 : Int64.ofInt 3689348814741910323 = Int64.ofNat 3689348814741910323 := by decide
  have cf : Int64.ofInt 1085102592571150095 = Int64.ofNat 1085102592571150095 := by decide
  simp only [q2, q20, q9, q10, q12, q18, Int64.ofInt_toInt, Int32.ofInt_toInt, c5, c3, cf] at key
  have b := pp_le x
  rw [zz_ti, show (pp x : Int) = ((pN 64 (uL x.toInt) : Nat) : Int) by rw [uL_t]; rfl]
  exact key
/-- what is told of a meeting: the class -/
def qvC (H : mjH) (Q : Nat) (v : Nat → Int32) : Prop := ∀ q, q < 10 → gI H (Q + 2) q = v q
theorem pc_tell {md lf : Nat → Int64} {o p w : Nat} {a hu n : Int} (hT : HT H) (hQ : Q = 19 ∨ Q = 23) (hJ : J = 3 ∨ J = 11) (ho : o < 17) (hp : p < 17) (hw : w < 52) (hmd : ∀ q, q < 17 → gL H (J + 1) q = md q) (hsz : ∀ q, q < 17 → gI H (J + 2) q = Int32.ofInt (pp (md q) : Int)) (hlf : ∀ v, v < 52 → gL H (J + 5) v = lf v) (h : Pn none m 98 0 [(0, .ref Q), (1, .ref J), (2, .int (Int32.ofInt (o : Int))), (3, .int (Int32.ofInt (p : Int))), (4, .int (Int32.ofInt a)), (5, .int (Int32.ofInt hu)), (6, .int (Int32.ofInt (w : Int))), (7, .int (Int32.ofInt n))] [] H r H') :
    r = .inl none ∧ HT H' ∧ (∀ a b, a ≠ Q + 2 → sxEl H' a b = sxEl H a b) ∧ qvC H' Q (qv md lf o p a hu n w) := by
  have hk := kA_Q_2_100_10_false hQ
  obtain ⟨-, -, -, L', hL, r2, H2, q, k⟩ := t_te0 hT hQ hJ ⟨rfl, rfl, rfl, rfl, rfl, rfl, rfl, rfl, trivial⟩ h
  rw [zz_cn (n := o), zz_cn (n := p), zz_cn (n := w), hsz o ho, hsz p hp, hlf w hw] at q
  have t1 := HT.pI (j := 0) (x := Int32.ofInt a) hT hk
  have t2 := HT.pI (j := 1) (x := Int32.ofInt hu) t1 hk
  have t3 := HT.pI (j := 2) (x := Int32.ofInt (pp (md o) : Int)) t2 hk
  have t4 := HT.pI (j := 3) (x := Int32.ofInt (pp (md p) : Int)) t3 hk
  have t5 := HT.pI (j := 4) (x := Int32.ofInt (o : Int)) t4 hk
  have t6 := HT.pI (j := 5) (x := Int32.ofInt (p : Int)) t5 hk
  have t7 := HT.pI (j := 6) (x := Int32.ofInt (w : Int)) t6 hk
  have t8 := HT.pI (j := 7) (x := Int32.ofInt n) t7 hk
  obtain ⟨d1, d2⟩ := pc_bc t8 q
  subst d1
  rw [d2] at k
  obtain ⟨-, -, L2, hL2, r3, H3, q3, k3⟩ := t_te1 t8 hQ hJ hL (pn_ret k)
  have t9 := HT.pI (j := 8) (x := Int32.ofInt (pp (lf w) : Int)) t8 hk
  obtain ⟨d3, d4⟩ := pc_bc t9 q3
  rw [zz_cn (n := o), zz_cn (n := p)] at d3
  rw [gL_ne (by omega), gL_ne (by omega), gL_ne (by omega), gL_ne (by omega), gL_ne (by omega), gL_ne (by omega), gL_ne (by omega), gL_ne (by omega), hmd o ho] at d3
  rw [gL_ne (by omega), gL_ne (by omega), gL_ne (by omega), gL_ne (by omega), gL_ne (by omega), gL_ne (by omega), gL_ne (by omega), gL_ne (by omega), hmd p hp] at d3
  subst d3
  rw [d4] at k3
  obtain ⟨e1, e2⟩ := t_te2 t9 hQ hL2 (pn_ret k3)
  have t10 := HT.pI (j := 9) (x := Int32.ofInt (pp (md o &&& md p) : Int)) t9 hk
  rw [e2]
  refine ⟨e1, t10, fun a b g => ?_, fun q hq => ?_⟩
  · rw [sxEl_ne (by omega), sxEl_ne (by omega), sxEl_ne (by omega), sxEl_ne (by omega), sxEl_ne (by omega), sxEl_ne (by omega), sxEl_ne (by omega), sxEl_ne (by omega), sxEl_ne (by omega), sxEl_ne (by omega)]
  · match q, hq with
    | 0, _ =>
      rw [gI_ne (by omega), gI_ne (by omega), gI_ne (by omega), gI_ne (by omega), gI_ne (by omega), gI_ne (by omega), gI_ne (by omega), gI_ne (by omega), gI_ne (by omega), gI_at hT hk (by omega)]
      rfl
    | 1, _ =>
      rw [gI_ne (by omega), gI_ne (by omega), gI_ne (by omega), gI_ne (by omega), gI_ne (by omega), gI_ne (by omega), gI_ne (by omega), gI_ne (by omega), gI_at t1 hk (by omega)]
      rfl
    | 2, _ =>
      rw [gI_ne (by omega), gI_ne (by omega), gI_ne (by omega), gI_ne (by omega), gI_ne (by omega), gI_ne (by omega), gI_ne (by omega), gI_at t2 hk (by omega)]
      rfl
    | 3, _ =>
      rw [gI_ne (by omega), gI_ne (by omega), gI_ne (by omega), gI_ne (by omega), gI_ne (by omega), gI_ne (by omega), gI_at t3 hk (by omega)]
      rfl
    | 4, _ =>
      rw [gI_ne (by omega), gI_ne (by omega), gI_ne (by omega), gI_ne (by omega), gI_ne (by omega), gI_at t4 hk (by omega)]
      rfl
    | 5, _ =>
      rw [gI_ne (by omega), gI_ne (by omega), gI_ne (by omega), gI_ne (by omega), gI_at t5 hk (by omega)]
      rfl
    | 6, _ =>
      rw [gI_ne (by omega), gI_ne (by omega), gI_ne (by omega), gI_at t6 hk (by omega)]
      rfl
    | 7, _ =>
      rw [gI_ne (by omega), gI_ne (by omega), gI_at t7 hk (by omega)]
      rfl
    | 8, _ =>
      rw [gI_ne (by omega), gI_at t8 hk (by omega)]
      rfl
    | 9, _ =>
      rw [gI_at t9 hk (by omega)]
      rfl
    | q + 10, hq => exact absurd hq (by omega)
/-- the class's law, and what it rests on -/
def cLw (H : mjH) (Y J Q : Nat) (law : Int) (wl : Nat) (md lf : Nat → Int64) (rs : tgRu) : Prop := (gR H Y 0 = J ∧ gR H Y 1 = Q) ∧ (gI H Y 2 = Int32.ofInt law ∧ 0 ≤ law ∧ law ≤ 4) ∧ (gI H Y 3 = Int32.ofInt (wl : Int) ∧ wl < 64) ∧ (∀ q, q < 17 → gL H (J + 1) q = md q) ∧ (∀ q, q < 17 → gI H (J + 2) q = Int32.ofInt (pp (md q) : Int)) ∧ (∀ v, v < 52 → gL H (J + 5) v = lf v) ∧ (gI H Q 2 = Int32.ofInt ((tgCode rs).length : Int) ∧ (tgCode rs).length ≤ 201) ∧ (∀ (i : Nat) (c : Int), (tgCode rs)[i]? = some c → gI H (Q + 1) i = Int32.ofInt c) ∧ ∀ c, c ∈ tgCode rs → 0 ≤ c ∧ c < 4000
theorem pc_yWo {law : Int} {wl : Nat} {md lf : Nat → Int64} {rs : tgRu} {bg : Nat → Int} {w p : Nat} (hY : Y = 32 ∨ Y = 38) (hJ : J = 3 ∨ J = 11) (hQ : Q = 19 ∨ Q = 23) (hw : w < 52) (hp : p < 17) (hok : tgOk rs) (hE : ∀ o p a h n w, E.who o p a h n w = whoOf law md lf rs o p a h n w) (hEt : ∀ q, q < 17 → E.tru q = bl (md q) wl) (hl : cLw H0 Y J Q law wl md lf rs) : yWo E H0 Y bg w p := by
  intro m H r H' o z hT hF ho hbg h10 hz0 hz1 h
  obtain ⟨⟨l1, l2⟩, ⟨l3, l4, l5⟩, ⟨l6, l7⟩, l8, l9, la, ⟨lb, lc⟩, ld, le⟩ := hl
  have hb := b_wf0 hT hY hJ ((hF.vR (by omega)).trans l1) ⟨rfl, rfl, rfl, rfl, trivial⟩ h
  rw [hF.vI (a := Y) (b := 2) (by omega), l3, zz_ti, zz_cn (n := o), zz_cn (n := p), hbg, zz_sub, hF.vI (a := J + 2) (b := p) (by omega), hF.vI (a := J + 2) (b := o) (by omega), l9 o ho, l9 p hp, hF.vI (a := Y) (b := 3) (by omega), l6] at hb
  rw [hE]
  unfold whoOf
  rcases hb with ⟨c, -, L', hL', r2, H2, q, k⟩ | ⟨c, e1, e2⟩ | ⟨c, e1, e2⟩ | ⟨c, e1, e2⟩ | ⟨c, -, -, hb⟩
  · rw [if_neg (by omega), if_neg (by omega), if_neg (by omega), if_neg (by omega)]
    -- so in the world that is
    obtain ⟨-, hs⟩ := b_soIn hT hJ ⟨rfl, rfl, rfl, trivial⟩ q
    rw [zz_cn (n := o), hF.vL (by omega), l8 o ho, bl_shr _ l7, lz_cmp] at hs
    have hs2 : r2 = .inl (some (.int (Int32.ofInt (if E.tru o = true then 1 else 0)))) ∧ H2 = H := by
      rw [hEt o ho]
      by_cases g : bl (md o) wl = true
      · rw [if_pos g]
        rw [if_pos g] at hs
        rcases hs with ⟨c, -⟩ | ⟨-, e⟩
        · exact absurd c l10
        · exact e
      · rw [if_neg g]
        rw [if_neg g] at hs
        rcases hs with ⟨-, e⟩ | ⟨c, -⟩
        · exact e
        · exact absurd rfl c
    obtain ⟨s1, s2⟩ := hs2
    subst s1
    rw [s2] at k
    have hb := b_wf1 hT hY hJ hQ ((hF.vR (by omega)).trans l1) ((hF.vR (by omega)).trans l2) hL' (pn_ret k)
    rw [h10] at hb
    -- told and asked
    have fin : ∀ (hu : Int) (L2 : mjL) (r3 : Option Value ⊕ Nat) (H3 : mjH), LG L2 [(0, .ref Y)] → Pn none m 98 0 [(0, .ref Q), (1, .ref J), (2, .int (Int32.ofInt (o : Int))), (3, .int (Int32.ofInt (p : Int))), (4, .int (Int32.ofInt ((w : Int) - bg o))), (5, .int (Int32.ofInt hu)), (6, .int (Int32.ofInt (w : Int))), (7, .int (Int32.ofInt z))] [] H r3 H3 → ((∃ v, r3 = .inl v ∧ Pn none m 9 124 L2 (v.toList ++ []) H3 r H') ∨ (∃ E, r3 = .inr E ∧ r = .inr E ∧ H' = H3)) → r = .inl (some (.int (Int32.ofInt (tmW (qv md lf o p ((w : Int) - bg o) hu z w) rs)))) ∧ HT H' ∧ tFr H H' := by
      intro hu L2 r3 H3 hL2 q3 k3
      obtain ⟨d1, d2, d3, d4⟩ := pc_tell (md := md) (lf := lf) hT hQ hJ ho hp hw (fun q hq => (hF.vL (by omega)).trans (l8 q hq)) (fun q hq => (hF.vI (by omega)).trans (l9 q hq)) (fun v hv => (hF.vL (by omega)).trans (la v hv)) q3
      subst d1
      have v3 : ∀ a b, a ≠ Q + 2 → gI H3 a b = gI H a b := fun a b g => by
        unfold gI
        rw [d3 a b g]
      have w3 : gR H3 Y 1 = Q := by
        have : gR H3 Y 1 = gR H Y 1 := by
          unfold gR
          rw [d3 Y 1 (by omega)]
        rw [this]
        exact (hF.vR (by omega)).trans l2
      obtain ⟨L4, hL4, r5, H5, q5, k5⟩ := b_wf2 d2 hY hQ w3 hL2 (pn_ret k3)
      obtain ⟨x1, x2⟩ := tgW_eq (vals := qv md lf o p ((w : Int) - bg o) hu z w) hok
      obtain ⟨y1, y2, y3⟩ := pt_who d2 hQ lc (fun i c hc => le c (List.mem_of_getElem? hc)) x2 ((v3 _ _ (by omega)).trans ((hF.vI (by omega)).trans lb)) (fun i c hc => (v3 _ _ (by omega)).trans ((hF.vI (by omega)).trans (ld i c hc))) d4 q5
      subst y1
      obtain ⟨e1, e2⟩ := b_wf3 y2 hL4 (pn_ret k5)
      rw [e2, ← x1]
      refine ⟨e1, y2, fun a b g => (y3 a b g).trans (d3 a b (by omega))⟩
    by_cases g : E.tru o = true
    · rw [if_pos g] at hb ⊢
      rcases hb with ⟨c2, -⟩ | ⟨-, L2, hL2, r3, H3, q3, k3⟩
      · exact absurd c2 (by decide)
      · exact fin 0 L2 r3 H3 hL2 q3 k3
    · rw [if_neg g] at hb ⊢
      rcases hb with ⟨-, L2, hL2, r3, H3, q3, k3⟩ | ⟨c2, -⟩
      · exact fin _ L2 r3 H3 hL2 q3 k3
      · exact absurd rfl c2
  · rw [if_pos c, e2]
    exact ⟨e1, hT, tFr.rf⟩
  · rw [if_neg (by omega), if_pos c, e2]
    exact ⟨e1, hT, tFr.rf⟩
  · rw [if_neg (by omega), if_neg (by omega), if_pos c, e2]
    exact ⟨e1, hT, tFr.rf⟩
  · rw [if_neg (by omega), if_neg (by omega), if_neg (by omega), if_pos c]
    have b1 := pp_le (md o)
    have b2 := pp_le (md p)
    rw [zz_le] at hb
    rcases hb with ⟨g, e1, e2⟩ | ⟨g, e1, e2⟩
    · rw [if_pos (by omega), e2]
      exact ⟨e1, hT, tFr.rf⟩
    · rw [if_neg (by omega), e2]
      exact ⟨e1, hT, tFr.rf⟩
end PCWH

/-! PC: bits of longs; what a TONGUE reckons with, step by step -/
section PCTV
variable {m : Nat} {L : mjL} {H H' H0 H1 : mjH} {r : Option Value ⊕ Nat} {Q : Nat}
def bl (x : Int64) (i : Nat) : Bool := x.toBitVec.getLsbD i
theorem bl_ext {x y : Int64} (h : ∀ i, i < 64 → bl x i = bl y i) : x = y := Int64.toBitVec_inj.mp (BitVec.eq_of_getLsbD_eq (fun i hi => h i hi))
theorem bl_and (x y : Int64) (i : Nat) : bl (x &&& y) i = (bl x i && bl y i) := by
  unfold bl
  rw [Int64.toBitVec_and, BitVec.getLsbD_and]
theorem bl_1 : ∀ i, i < 64 → bl (Int64.ofNat 1) i = decide (i = 0) := by decide +kernel
theorem bl_0 : ∀ i, i < 64 → bl (Int64.ofNat 0) i = false := by decide +kernel
theorem sh_s : ∀ (n : Nat), n < 64 → (((Int32.ofInt (n : Int)).toInt64 &&& 63).toBitVec.smod 64).toNat = n := by decide +kernel
theorem sh_u : ∀ (n : Nat), n < 64 → (((Int32.ofInt (n : Int)).toInt64.toUInt64 &&& Int64.toUInt64 63).toBitVec % 64).toNat = n := by decide +kernel
theorem bl_sar0 (x : Int64) {n : Nat} (hn : n < 64) : bl (x >>> ((Int32.ofInt (n : Int)).toInt64 &&& 63)) 0 = bl x n := by
  unfold bl
  rw [Int64.toBitVec_shiftRight]
  show (x.toBitVec.sshiftRight (((Int32.ofInt (n : Int)).toInt64 &&& 63).toBitVec.smod 64).toNat).getLsbD 0 = _
  rw [sh_s n hn, BitVec.getLsbD_sshiftRight]
  simp [hn]
theorem bl_shr0 (x : Int64) {n : Nat} (hn : n < 64) : bl (x.toUInt64 >>> ((Int32.ofInt (n : Int)).toInt64.toUInt64 &&& Int64.toUInt64 63)).toInt64 0 = bl x n := by
  show (x.toUInt64 >>> ((Int32.ofInt (n : Int)).toInt64.toUInt64 &&& Int64.toUInt64 63)).toBitVec.getLsbD 0 = x.toUInt64.toBitVec.getLsbD n
  rw [UInt64.toBitVec_shiftRight]
  show (x.toUInt64.toBitVec >>> (((Int32.ofInt (n : Int)).toInt64.toUInt64 &&& Int64.toUInt64 63).toBitVec % 64).toNat).getLsbD 0 = _
  rw [sh_u n hn, BitVec.getLsbD_ushiftRight, Nat.add_zero]
/-- a long's lowest bit -/
theorem bl_low (x : Int64) : (x &&& Int64.ofNat 1) = if bl x 0 = true then Int64.ofNat 1 else Int64.ofNat 0 := by
  refine bl_ext (fun i hi => ?_)
  rw [bl_and, bl_1 i hi]
  by_cases h : bl x 0 = true
  · rw [if_pos h, bl_1 i hi]
    by_cases g : i = 0
    · subst g
      rw [h]
      rfl
    · rw [decide_eq_false g, Bool.and_false]
  · rw [if_neg h, bl_0 i hi]
    by_cases g : i = 0
    · subst g
      have : bl x 0 = false := by
        cases e : bl x 0 with
        | false => rfl
        | true => exact absurd e h
      rw [this]
      rfl
    · rw [decide_eq_false g, Bool.and_false]
theorem bl_sar (x : Int64) {n : Nat} (hn : n < 64) : ((x >>> ((Int32.ofInt (n : Int)).toInt64 &&& 63)) &&& Int64.ofNat 1) = if bl x n = true then Int64.ofNat 1 else Int64.ofNat 0 := by
  rw [bl_low, bl_sar0 x hn]
theorem bl_shr (x : Int64) {n : Nat} (hn : n < 64) : (((x.toUInt64 >>> ((Int32.ofInt (n : Int)).toInt64.toUInt64 &&& Int64.toUInt64 63)).toInt64) &&& Int64.ofNat 1) = if bl x n = true then Int64.ofNat 1 else Int64.ofNat 0 := by
  rw [bl_low, bl_shr0 x hn]
theorem l10 : ¬ Int64.ofNat 1 = Int64.ofNat 0 := by decide
/-- how many bits -/
def pp (x : Int64) : Nat := pN 64 x.toBitVec.toNat
theorem bl_div (x : Int64) (k : Nat) : x.toBitVec.toNat / 2 ^ k % 2 = if bl x k = true then 1 else 0 := by
  unfold bl
  show _ = if x.toBitVec.toNat.testBit k = true then 1 else 0
  rw [Nat.testBit_eq_decide_div_mod_eq]
  by_cases h : x.toBitVec.toNat / 2 ^ k % 2 = 1
  · rw [if_pos (decide_eq_true h), h]
  · rw [if_neg (by rw [decide_eq_false h]; decide)]
    omega
theorem pm_onL {x : Int64} : ∀ (m i : Nat) (L : mjL), i ≤ 64 → LG L [(0, .long x), (2, .int (Int32.ofInt (pN i x.toBitVec.toNat : Int))), (3, .int (Int32.ofInt (i : Int)))] → HT H → Pn none m 225 4 L [] H r H' → r = .inl (some (.int (Int32.ofInt (pp x : Int)))) ∧ H' = H
  | 0, _, _, _, _, _, h => Pn0 h
  | m + 1, i, L, hi, hL, hT, h => by
    have hb := m_onL hT hL h
    rw [zz_le] at hb
    rcases hb with ⟨c, e⟩ | ⟨c, L', hL', h'⟩
    · have e0 : i = 64 := by omega
      subst e0
      exact e
    · have hi2 : i < 64 := by omega
      rw [bl_sar x hi2, zz_add] at hL'
      have e1 : Int32.ofInt (pN i x.toBitVec.toNat : Int) + (if bl x i = true then Int64.ofNat 1 else Int64.ofNat 0).toInt32 = Int32.ofInt (pN (i + 1) x.toBitVec.toNat : Int) := by
        rw [pN_suc, bl_div]
        by_cases g : bl x i = true
        · rw [if_pos g, if_pos g, show (Int64.ofNat 1).toInt32 = Int32.ofInt 1 by decide, zz_add]
          rfl
        · rw [if_neg g, if_neg g, show (Int64.ofNat 0).toInt32 = Int32.ofInt 0 by decide, zz_add]
          rfl
      rw [e1] at hL'
      exact pm_onL m (i + 1) L' hi2 hL' hT h'
theorem pm_ones {x : Int64} (hT : HT H) (h : Pn none m 225 0 [(0, .long x)] [] H r H') : r = .inl (some (.int (Int32.ofInt (pp x : Int)))) ∧ H' = H := by
  obtain ⟨L', hL, h'⟩ := m_on0 hT ⟨rfl, trivial⟩ h
  exact pm_onL m 0 L' (Nat.zero_le _) hL hT h'
/-- a quantity, or a number -/
def tgV (vals : Nat → Int32) (c : Int) : Int32 := if 1000 ≤ c ∧ c < 1010 then vals (c - 1000).toNat else Int32.ofInt c
/-- what a sign reckons, as the class has it -/
def tgR (s : Int) (x y : Int32) : Int32 := if s = 2000 then x + y else if s = 2001 then x - y else if s = 2002 then x * y else if s = 2003 then (if x < y then Int32.ofInt 1 else Int32.ofInt 0) else if s = 2004 then (if y < x then Int32.ofInt 1 else Int32.ofInt 0) else if s = 2005 then (if x = y then Int32.ofInt 1 else Int32.ofInt 0) else if s = 2006 then x &&& y else x ||| y
/-- who falls, by codes: the class -/
def tgC (vals : Nat → Int32) : List Int → List Int32 → Int
  | [], _ => 0
  | c :: l, st =>
    if c < 2000 then tgC vals l (tgV vals c :: st)
    else if c = 2008 then tgC vals l ((st.headD 0 ^^^ Int32.ofInt 1) :: st.tail)
    else if c < 3000 then tgC vals l (tgR c (st.tail.headD 0) (st.headD 0) :: st.tail.tail)
    else if st.headD 0 = Int32.ofInt 0 then tgC vals l st.tail else c - 3000
/-- the codes are such that the stack suffices -/
def tgG (vals : Nat → Int32) : List Int → List Int32 → Prop
  | [], _ => True
  | c :: l, st => (c < 2000 → st.length < 64 ∧ tgG vals l (tgV vals c :: st)) ∧ (c = 2008 → 0 < st.length ∧ tgG vals l ((st.headD 0 ^^^ Int32.ofInt 1) :: st.tail)) ∧ (2000 ≤ c ∧ c < 3000 ∧ c ≠ 2008 → 1 < st.length ∧ tgG vals l (tgR c (st.tail.headD 0) (st.headD 0) :: st.tail.tail)) ∧ (3000 ≤ c → 0 < st.length ∧ (st.headD 0 = Int32.ofInt 0 → tgG vals l st.tail))
theorem pt_val {c : Int} (hT : HT H) (hQ : Q = 19 ∨ Q = 23) (hc : 0 ≤ c ∧ c < 4000) (h : Pn none m 100 0 [(0, .ref Q), (1, .int (Int32.ofInt c))] [] H r H') : r = .inl (some (.int (tgV (fun q => gI H (Q + 2) q) c))) ∧ H' = H := by
  have hb := t_val hT hQ ⟨rfl, rfl, trivial⟩ h
  rw [zz_sub, zz_lt, zz_le] at hb
  unfold tgV
  rcases hb with ⟨c1, e⟩ | ⟨c1, ⟨c2, e⟩ | ⟨c2, -, e⟩⟩
  · rw [if_neg (by omega)]
    exact e
  · rw [if_neg (by omega)]
    exact e
  · rw [if_pos (by omega)]
    rw [zz_cl] at e
    exact e
theorem pt_rk {s : Int} {x y : Int32} (hT : HT H) (hs : 0 ≤ s ∧ s < 4000) (h : Pn none m 101 0 [(0, .int (Int32.ofInt s)), (1, .int x), (2, .int y)] [] H r H') : r = .inl (some (.int (tgR s x y))) ∧ H' = H := by
  have hb := t_rk hT ⟨rfl, rfl, rfl, trivial⟩ h
  rw [zz_ti] at hb
  unfold tgR
  rcases hb with ⟨c, e⟩ | ⟨c, e⟩ | ⟨c, e⟩ | ⟨c, e⟩ | ⟨c, e⟩ | ⟨c, e⟩ | ⟨c, e⟩ | ⟨c, e⟩
  · rw [if_neg (by omega), if_neg (by omega), if_neg (by omega), if_neg (by omega), if_neg (by omega), if_neg (by omega), if_neg (by omega)]
    exact e
  · rw [if_pos c]
    exact e
  · rw [if_neg (by omega), if_pos c]
    exact e
  · rw [if_neg (by omega), if_neg (by omega), if_pos c]
    exact e
  · rw [if_neg (by omega), if_neg (by omega), if_neg (by omega), if_pos c]
    rcases e with ⟨g, e⟩ | ⟨g, e⟩
    · rw [if_neg (fun z => by rw [Int32.lt_iff_toInt_lt] at z; rw [Int32.le_iff_toInt_le] at g; omega)]
      exact e
    · rw [if_pos (by rw [Int32.le_iff_toInt_le] at g; rw [Int32.lt_iff_toInt_lt]; omega)]
      exact e
  · rw [if_neg (by omega), if_neg (by omega), if_neg (by omega), if_neg (by omega), if_pos c]
    rcases e with ⟨g, e⟩ | ⟨g, e⟩
    · rw [if_neg (fun z => by rw [Int32.lt_iff_toInt_lt] at z; rw [Int32.le_iff_toInt_le] at g; omega)]
      exact e
    · rw [if_pos (by rw [Int32.le_iff_toInt_le] at g; rw [Int32.lt_iff_toInt_lt]; omega)]
      exact e
  · rw [if_neg (by omega), if_neg (by omega), if_neg (by omega), if_neg (by omega), if_neg (by omega), if_pos c]
    rcases e with ⟨g, e⟩ | ⟨g, e⟩
    · rw [if_neg g]
      exact e
    · rw [if_pos (Classical.not_not.mp g)]
      exact e
  · rw [if_neg (by omega), if_neg (by omega), if_neg (by omega), if_neg (by omega), if_neg (by omega), if_neg (by omega), if_pos c]
    exact e
/-- the stack, its top first -/
def tgS (H : mjH) (a : Nat) (st : List Int32) : Prop := ∀ (i : Nat) (x : Int32), st.reverse[i]? = some x → gI H a i = x
theorem tgS_top {a : Nat} {x : Int32} {st : List Int32} (h : tgS H a (x :: st)) : gI H a st.length = x ∧ tgS H a st := by
  refine ⟨h st.length x ?_, fun i y hy => h i y ?_⟩
  · rw [List.reverse_cons, List.getElem?_append_right (by rw [List.length_reverse]; exact Nat.le_refl _), List.length_reverse, Nat.sub_self]
    rfl
  · have := (List.getElem?_eq_some_iff.mp hy).1
    rw [List.reverse_cons, List.getElem?_append_left this]
    exact hy
theorem tgS_push {a t n : Nat} {x : Int32} {st : List Int32} (hT : HT H) (hk : kA a t n false = true) (hl : st.length < n) (h : tgS H a st) : tgS (pV H a st.length (.int x)) a (x :: st) := by
  intro i y hy
  rw [List.reverse_cons] at hy
  rcases Nat.lt_or_ge i st.length with g | g
  · rw [List.getElem?_append_left (by rw [List.length_reverse]; exact g)] at hy
    rw [gI_ne (by omega)]
    exact h i y hy
  · rw [List.getElem?_append_right (by rw [List.length_reverse]; exact g), List.length_reverse] at hy
    have h0 : i - st.length = 0 := by
      have := (List.getElem?_eq_some_iff.mp hy).1
      simp only [List.length_singleton] at this
      omega
    rw [h0] at hy
    cases hy
    rw [show i = st.length by omega, gI_at hT hk hl]
theorem tgS_cg {a : Nat} {st : List Int32} (h : tgS H a st) (hs : ∀ i, i < st.length → gI H1 a i = gI H a i) : tgS H1 a st := fun i x hx => by
  have := (List.getElem?_eq_some_iff.mp hx).1
  rw [List.length_reverse] at this
  rw [hs i this]
  exact h i x hx
/-- the class reckons through its codes -/
theorem pt_wL {code : List Int} {vals : Nat → Int32} (hQ : Q = 19 ∨ Q = 23) (hcl : code.length ≤ 201) (hc : ∀ (i : Nat) (c : Int), code[i]? = some c → 0 ≤ c ∧ c < 4000) : ∀ (m i : Nat) (st : List Int32) (L : mjL) (H : mjH), i ≤ code.length → st.length ≤ 64 → tgG vals (code.drop i) st → HT H → tFr H0 H → gI H Q 2 = Int32.ofInt (code.length : Int) → (∀ (i : Nat) (c : Int), code[i]? = some c → gI H (Q + 1) i = Int32.ofInt c) → (∀ q, q < 10 → gI H (Q + 2) q = vals q) → tgS H (Q + 3) st → LG L [(0, .ref Q), (1, .int (Int32.ofInt (st.length : Int))), (2, .int (Int32.ofInt (i : Int)))] → Pn none m 99 4 L [] H r H' →
    r = .inl (some (.int (Int32.ofInt (tgC vals (code.drop i) st)))) ∧ HT H' ∧ tFr H0 H'
  | 0, _, _, _, _, _, _, _, _, _, _, _, _, _, _, h => Pn0 h
  | m + 1, i, st, L, H, hi, hsl, hg, hT, hF, h2, hco, hva, hst, hL, h => by
    by_cases hie : code.length ≤ i
    · have e0 : i = code.length := by omega
      subst e0
      obtain ⟨e1, e2⟩ := t_wLE hT hQ (by rw [h2, zz_le]; omega) hL h
      rw [List.drop_length, e2]
      exact ⟨e1, hT, hF⟩
    have hi2 : i < code.length := by omega
    have k9 : ¬ (gI H Q 2 ≤ Int32.ofInt (i : Int)) := by
      rw [h2, zz_le]
      omega
    have hx : code[i]? = some code[i] := List.getElem?_eq_getElem hi2
    have hdr : code.drop i = code[i] :: code.drop (i + 1) := List.drop_eq_getElem_cons hi2
    generalize code[i] = c0 at hx hdr
    have hc0 := hc i c0 hx
    have hci : gI H (Q + 1) (Int32.ofInt (i : Int)).toNatClampNeg = Int32.ofInt c0 := by
      rw [zz_cn]
      exact hco i c0 hx
    rw [hdr] at hg ⊢
    have hs : Int32.ofInt (i : Int) + Int32.ofInt 1 = Int32.ofInt ((i + 1 : Nat) : Int) := zz_add _ _
    -- on
    have goon : ∀ (st' : List Int32) (L' : mjL) (H1 : mjH), st'.length ≤ 64 → tgG vals (code.drop (i + 1)) st' → HT H1 → tFr H0 H1 → (∀ a b, a ≠ Q + 3 → gI H1 a b = gI H a b) → tgS H1 (Q + 3) st' → LG L' [(0, .ref Q), (1, .int (Int32.ofInt (st'.length : Int))), (2, .int (Int32.ofInt ((i + 1 : Nat) : Int)))] → Pn none m 99 4 L' [] H1 r H' → r = .inl (some (.int (Int32.ofInt (tgC vals (code.drop (i + 1)) st')))) ∧ HT H' ∧ tFr H0 H' := by
      intro st' L' H1 k1 kg k2 k3 k4 k5 k6 k7
      exact pt_wL hQ hcl hc m (i + 1) st' L' H1 hi2 k1 kg k2 k3 ((k4 _ _ (by omega)).trans h2) (fun j c hj => (k4 _ _ (by omega)).trans (hco j c hj)) (fun q hq => (k4 _ _ (by omega)).trans (hva q hq)) k5 k6 k7
    unfold tgC
    by_cases cA : c0 < 2000
    · obtain ⟨g1, g2⟩ := hg.1 cA
      obtain ⟨-, L', hL', r2, H2, q, k⟩ := t_wLA hT hQ k9 (by rw [hci, zz_le]; omega) (by rw [zz_le]; omega) hL h
      rw [hci] at q
      obtain ⟨d1, d2⟩ := pt_val hT hQ hc0 q
      subst d1
      rw [d2] at k
      obtain ⟨-, L2, hL2, h3⟩ := t_w1 hT hQ hL' (pn_ret k)
      rw [zz_cn (n := st.length)] at h3
      have ev : tgV (fun q => gI H (Q + 2) q) c0 = tgV vals c0 := by
        unfold tgV
        by_cases g : 1000 ≤ c0 ∧ c0 < 1010
        · rw [if_pos g, if_pos g]
          exact hva _ (by omega)
        · rw [if_neg g, if_neg g]
      rw [ev] at h3
      rw [if_pos cA]
      refine goon (tgV vals c0 :: st) L2 _ g1 g2 (HT.pI hT (kA_Q_3_100_64_false hQ)) (hF.put (by omega)) (fun a b hab => gI_ne (by omega)) (tgS_push hT (kA_Q_3_100_64_false hQ) g1 hst) ?_ h3
      rw [hs] at hL2
      obtain ⟨u0, u1, u2, -⟩ := hL2
      refine ⟨u0, ?_, u2, trivial⟩
      rw [u1, zz_add]
      rfl
    rw [if_neg cA]
    by_cases cB : c0 = 2008
    · obtain ⟨g1, g2⟩ := hg.2.1 cB
      rw [if_pos cB]
      cases st with
      | nil => exact absurd g1 (by decide)
      | cons x st =>
        obtain ⟨s1, s2⟩ := tgS_top hst
        obtain ⟨-, -, L', hL', h'⟩ := t_wLB hT hQ k9 (by rw [hci, zz_le]; omega) (fun z => z (by rw [hci, cB])) (by rw [zz_le]; have : (x :: st).length = st.length + 1 := rfl; omega) hL h
        have e1 : (Int32.ofInt ((x :: st).length : Int) - Int32.ofInt 1).toNatClampNeg = st.length := by
          rw [zz_sub, show ((x :: st).length : Int) - 1 = (st.length : Int) by rw [List.length_cons]; omega]
          have : (x :: st).length = st.length + 1 := rfl
          exact zz_cn
        rw [e1, s1] at h'
        rw [hs] at hL'
        exact goon ((x ^^^ Int32.ofInt 1) :: st) L' _ hsl g2 (HT.pI hT (kA_Q_3_100_64_false hQ)) (hF.put (by omega)) (fun a b hab => gI_ne (by omega)) (tgS_push hT (kA_Q_3_100_64_false hQ) (by have : (x :: st).length = st.length + 1 := rfl; omega) s2) hL' h'
    rw [if_neg cB]
    by_cases cC : c0 < 3000
    · obtain ⟨g1, g2⟩ := hg.2.2.1 ⟨by omega, cC, cB⟩
      rw [if_pos cC]
      match st, g1, g2, hst, hsl, hL, goon with
      | y :: x :: st, g1, g2, hst, hsl, hL, goon =>
        have hl2 : (y :: x :: st).length = st.length + 2 := rfl
        obtain ⟨s1, s2⟩ := tgS_top hst
        obtain ⟨s3, s4⟩ := tgS_top s2
        obtain ⟨-, -, -, L', hL', r2, H2, q, k⟩ := t_wLC hT hQ k9 (by rw [hci, zz_le]; omega) (by rw [hci, zz_eq]; exact cB) (by rw [hci, zz_le]; omega) (by rw [zz_le]; omega) hL h
        have e0 : Int32.ofInt ((y :: x :: st).length : Int) + Int32.ofInt (-1) = Int32.ofInt ((st.length + 1 : Nat) : Int) := by
          rw [zz_add]
          exact congrArg Int32.ofInt (by omega)
        have e2 : Int32.ofInt ((st.length + 1 : Nat) : Int) - Int32.ofInt 1 = Int32.ofInt (st.length : Int) := by
          rw [zz_sub]
          exact congrArg Int32.ofInt (by omega)
        rw [hci, e0, e2, zz_cn (n := st.length + 1), zz_cn (n := st.length), s3] at q
        rw [show gI H (Q + 3) (st.length + 1) = y from s1] at q
        rw [e0] at hL'
        rw [e0, e2] at k
        obtain ⟨d1, d2⟩ := pt_rk hT hc0 q
        subst d1
        rw [d2] at k
        obtain ⟨-, L2, hL2, h3⟩ := t_w2 hT hQ hL' (pn_ret k)
        rw [zz_cn (n := st.length)] at h3
        rw [hs] at hL2
        exact goon (tgR c0 x y :: st) L2 _ (by rw [List.length_cons]; omega) g2 (HT.pI hT (kA_Q_3_100_64_false hQ)) (hF.put (by omega)) (fun a b hab => gI_ne (by omega)) (tgS_push hT (kA_Q_3_100_64_false hQ) (by omega) s4) hL2 h3
      | [], g1, g2, hst, hsl, hL, goon => exact absurd g1 (by decide)
      | [x], g1, g2, hst, hsl, hL, goon => exact absurd g1 (Nat.lt_irrefl 1)
    · obtain ⟨g1, g2⟩ := hg.2.2.2 (by omega)
      rw [if_neg cC]
      cases st with
      | nil => exact absurd g1 (by decide)
      | cons x st =>
        have hl2 : (x :: st).length = st.length + 1 := rfl
        obtain ⟨s1, s2⟩ := tgS_top hst
        obtain ⟨-, -, hb⟩ := t_wLD hT hQ k9 (by rw [hci, zz_le]; omega) (by rw [hci, zz_eq]; exact cB) (by rw [hci, zz_le]; omega) (by rw [hci, zz_lt]; exact cC) (by rw [zz_le]; omega) hL h
        have e0 : Int32.ofInt ((x :: st).length : Int) + Int32.ofInt (-1) = Int32.ofInt (st.length : Int) := by
          rw [zz_add]
          exact congrArg Int32.ofInt (by omega)
        rw [e0, zz_cn (n := st.length), s1, hci, hs] at hb
        rcases hb with ⟨c, L', hL', h'⟩ | ⟨c, e1, e2⟩
        · rw [if_pos (show (x :: st).headD 0 = Int32.ofInt 0 from c)]
          exact goon st L' H (by omega) (g2 c) hT hF (fun _ _ _ => rfl) s2 hL' h'
        · rw [if_neg (show ¬ (x :: st).headD 0 = Int32.ofInt 0 from c), e2]
          rw [zz_sub] at e1
          exact ⟨e1, hT, hF⟩
theorem pt_who {code : List Int} {vals : Nat → Int32} (hT : HT H) (hQ : Q = 19 ∨ Q = 23) (hcl : code.length ≤ 201) (hc : ∀ (i : Nat) (c : Int), code[i]? = some c → 0 ≤ c ∧ c < 4000) (hg : tgG vals code []) (h2 : gI H Q 2 = Int32.ofInt (code.length : Int)) (hco : ∀ (i : Nat) (c : Int), code[i]? = some c → gI H (Q + 1) i = Int32.ofInt c) (hva : ∀ q, q < 10 → gI H (Q + 2) q = vals q) (h : Pn none m 99 0 [(0, .ref Q)] [] H r H') :
    r = .inl (some (.int (Int32.ofInt (tgC vals code [])))) ∧ HT H' ∧ tFr H H' := by
  obtain ⟨L', hL, h'⟩ := t_w0 hT hQ ⟨rfl, trivial⟩ h
  exact pt_wL hQ hcl hc m 0 [] L' H (Nat.zero_le _) (Nat.zero_le _) hg hT tFr.rf h2 hco hva (fun i x hx => by cases hx) hL h'
end PCTV

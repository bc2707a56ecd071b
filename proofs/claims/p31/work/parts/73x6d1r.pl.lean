/-! PC: the class's year: a row that is played (r) -/
section PCPLr
variable {m : Nat} {L : mjL} {H H' H0 H1 : mjH} {r : Option Value ⊕ Nat} {J Y Q : Nat} {E : yE} {s : yC} {p w : Nat}
theorem pc_gb1r {f : Nat} {bg en fo : Nat → Int} (hY : Y = 32 ∨ Y = 38) (hf : f ≤ 52) : ∀ (m i : Nat) (L : mjL) (H : mjH), i ≤ 17 → HT H → yFr Y H0 H → gI H Y 10 = Int32.ofInt 0 → gI H Y 11 = Int32.ofInt 0 → yGB H Y f bg en fo i → LG L [(0, .ref Y), (1, .ref 31), (2, .int (Int32.ofInt (f : Int))), (3, .int (Int32.ofInt (i : Int)))] → Pn none m 3 12 L [] H r H' →
    ∃ (L' : mjL) (H2 : mjH) (m' : Nat), LG L' [(0, .ref Y), (1, .ref 31), (2, .int (Int32.ofInt (f : Int))), (3, .int (Int32.ofInt 0))] ∧ HT H2 ∧ yFr Y H0 H2 ∧ gI H2 Y 10 = Int32.ofInt 0 ∧ gI H2 Y 11 = Int32.ofInt 0 ∧ ycP H2 Y (fun x => if (f : Int) ≤ bg x then -1 else bg x) en fo ∧ Pn none m' 3 46 L' [] H2 r H'
  | 0, _, _, _, _, _, _, _, _, _, _, h => Pn0 h
  | m + 1, i, L, H, hi, hT, hF, z1, z2, hP, hL, h => by
    have hb := b_gb1r hT hY hL h
    rw [zz_le] at hb
    rcases hb with ⟨c, L', hL', h'⟩ | ⟨c, -, hb⟩
    · refine ⟨L', H, m, hL', hT, hF, z1, z2, fun p hp => ?_, h'⟩
      have h1 := hP p hp
      dsimp only at h1
      have e : (if p < i ∧ (f : Int) ≤ bg p then -1 else bg p) = (if (f : Int) ≤ bg p then -1 else bg p) := by
        by_cases g : (f : Int) ≤ bg p
        · rw [if_pos ⟨by omega, g⟩, if_pos g]
        · rw [if_neg (fun q => g q.2), if_neg g]
      rw [e] at h1
      exact h1
    · have hi2 : i < 17 := by omega
      have k0 := hP i hi2
      dsimp only at k0
      obtain ⟨k1, k2, k3, k4, ⟨k5, k6⟩, k7⟩ := k0
      have ei : (if i < i ∧ (f : Int) ≤ bg i then -1 else bg i) = bg i := if_neg (by omega)
      rw [ei] at k1 k4 k5 k6
      rw [zz_cn, k1, zz_lt, zz_add] at hb
      have hs : Int32.ofInt ((i : Int) + 1) = Int32.ofInt ((i + 1 : Nat) : Int) := rfl
      rw [hs] at hb
      rcases hb with ⟨c2, L', hL', h'⟩ | ⟨c2, L', hL', h'⟩
      · refine pc_gb1r hY hf m (i + 1) L' H hi2 hT hF z1 z2 (fun p hp => ?_) hL' h'
        have h1 := hP p hp
        dsimp only at h1
        have e : (if p < i ∧ (f : Int) ≤ bg p then -1 else bg p) = (if p < i + 1 ∧ (f : Int) ≤ bg p then -1 else bg p) := by
          by_cases g : p = i
          · subst g
            rw [if_neg (by omega), if_neg (by omega)]
          · by_cases g2 : p < i
            · by_cases g3 : (f : Int) ≤ bg p
              · rw [if_pos ⟨g2, g3⟩, if_pos ⟨by omega, g3⟩]
              · rw [if_neg (fun q => g3 q.2), if_neg (fun q => g3 q.2)]
            · rw [if_neg (fun q => g2 q.1), if_neg (by omega)]
        rw [e] at h1
        exact h1
      · have t1 := HT.pI (j := i) (x := Int32.ofInt (-1)) hT (kA_Y_1_100_17_false hY)
        refine pc_gb1r hY hf m (i + 1) L' _ hi2 t1 (hF.put (by omega)) (by rw [gI_ne (by omega)]; exact z1) (by rw [gI_ne (by omega)]; exact z2) (fun p hp => ?_) hL' h'
        have h0 := hP p hp
        dsimp only at h0
        obtain ⟨h1, h2, h3, h4, h5⟩ := h0
        by_cases g : p = i
        · subst g
          have e : (if p < p + 1 ∧ (f : Int) ≤ bg p then -1 else bg p) = -1 := if_pos ⟨by omega, by omega⟩
          simp only [e]
          exact ⟨gI_at hT (kA_Y_1_100_17_false hY) hp, by rw [gI_ne (by omega)]; exact h2, by rw [gI_ne (by omega)]; exact h3, fun q => absurd rfl q, by omega, h5.2⟩
        · have e : (if p < i ∧ (f : Int) ≤ bg p then -1 else bg p) = (if p < i + 1 ∧ (f : Int) ≤ bg p then -1 else bg p) := by
            by_cases g2 : p < i
            · by_cases g3 : (f : Int) ≤ bg p
              · rw [if_pos ⟨g2, g3⟩, if_pos ⟨by omega, g3⟩]
              · rw [if_neg (fun q => g3 q.2), if_neg (fun q => g3 q.2)]
            · rw [if_neg (fun q => g2 q.1), if_neg (by omega)]
          rw [e] at h1 h4 h5
          exact ⟨by rw [gI_ne (by omega)]; exact h1, by rw [gI_ne (by omega)]; exact h2, by rw [gI_ne (by omega)]; exact h3, fun q => by rw [gI_ne (by omega)]; exact h4 q, h5⟩
/-- so far as the chairs are laid anew -/
def yGSr (row : Nat → Option Nat) (f i : Nat) (bg en fo : Nat → Int) : yC := ((yPre row i).filter (fun x => decide ((f : Int) ≤ en x)), bg, fun x => if x ∈ yPre row i ∧ (f : Int) ≤ en x then 52 else en x, fun x => if x ∈ yPre row i ∧ (f : Int) ≤ en x then -1 else fo x)
theorem pc_gb2r {f len : Nat} {row : Nat → Option Nat} {bg en fo : Nat → Int} (hY : Y = 32 ∨ Y = 38) (hf : f ≤ len) (hl : len ≤ 17) (hR : ∀ v w p : Nat, row v = some p → row w = some p → v = w) : ∀ (m i : Nat) (L : mjL) (H : mjH), i ≤ f → HT H → yFr Y H0 H → yRow H0 31 len row → (∀ x, 0 ≤ en x ∧ en x ≤ 52) → ycA H Y (yGSr row f i bg en fo) → LG L [(0, .ref Y), (1, .ref 31), (2, .int (Int32.ofInt (f : Int))), (3, .int (Int32.ofInt (i : Int)))] → Pn none m 3 46 L [] H r H' →
    r = .inl none ∧ HT H' ∧ yFr Y H0 H' ∧ ycA H' Y (yGSr row f f bg en fo)
  | 0, _, _, _, _, _, _, _, _, _, _, h => Pn0 h
  | m + 1, i, L, H, hi, hT, hF, hr, hen, hA, hL, h => by
    have hr1 := hr.fr hY (by omega) hF
    have hb := b_gb2r hT hY hL h
    rw [zz_le] at hb
    rcases hb with ⟨c, e1, e2⟩ | ⟨c, hb⟩
    · have e0 : i = f := by omega
      subst e0
      rw [e2]
      exact ⟨e1, hT, hF, hA⟩
    · have hi2 : i < f := by omega
      have ri := hr1.1 i (by omega)
      rw [zz_le, zz_cn (n := i), zz_add] at hb
      rcases hb with ⟨c, -⟩ | ⟨-, -, hb⟩
      · omega
      have hs : Int32.ofInt ((i : Int) + 1) = Int32.ofInt ((i + 1 : Nat) : Int) := rfl
      rw [hs] at hb
      cases hp : row i with
      | none =>
        rw [hp] at ri
        dsimp only at ri
        rw [ri, zz_lt] at hb
        have eq : yGSr row f (i + 1) bg en fo = yGSr row f i bg en fo := by
          unfold yGSr
          rw [yPre_none hp]
        rcases hb with ⟨-, L', hL', h'⟩ | ⟨c2, -⟩
        · refine pc_gb2r hY hf hl hR m (i + 1) L' H hi2 hT hF hr hen ?_ hL' h'
          rw [eq]
          exact hA
        · omega
      | some p =>
        have hp17 := (hr.2 i p hp).1
        rw [hp] at ri
        dsimp only at ri
        rw [ri, zz_lt, zz_le, zz_cn (n := p)] at hb
        have hpn : ¬ p ∈ yPre row i := fun g => by
          obtain ⟨v, h1, h2⟩ := yPre_mem.mp g
          have := hR v i p h2 hp
          omega
        have hpe : gI H (Y + 2) p = Int32.ofInt (en p) := by
          have h2 := (hA.2.2.2.2.2.2 p hp17).2.1
          rw [show (yGSr row f i bg en fo).en p = en p from if_neg (fun g => hpn g.1)] at h2
          exact h2
        have hep := hen p
        rw [hpe, zz_lt] at hb
        rcases hb with ⟨c, -⟩ | ⟨-, ⟨c, -⟩ | ⟨-, -, hb⟩⟩
        · omega
        · omega
        rcases hb with ⟨c2, L', hL', h'⟩ | ⟨c2, L', hL', r2, H2, q, k⟩
        · have eq : yGSr row f (i + 1) bg en fo = yGSr row f i bg en fo := by
            unfold yGSr
            rw [yPre_some hp, List.filter_append, List.filter_cons, if_neg (by rw [decide_eq_false (by omega)]; decide), List.filter_nil, List.append_nil]
            have key : ∀ x, (x ∈ yPre row i ++ [p] ∧ (f : Int) ≤ en x) ↔ (x ∈ yPre row i ∧ (f : Int) ≤ en x) := by
              intro x
              rw [List.mem_append, List.mem_singleton]
              constructor
              · rintro ⟨g1 | g1, g2⟩
                · exact ⟨g1, g2⟩
                · rw [g1] at g2
                  omega
              · rintro ⟨g1, g2⟩
                exact ⟨Or.inl g1, g2⟩
            simp only [key]
          refine pc_gb2r hY hf hl hR m (i + 1) L' H hi2 hT hF hr hen ?_ hL' h'
          rw [eq]
          exact hA
        · have hlen : (yGSr row f i bg en fo).ch.length < 17 := by
            have h1 := List.length_filter_le (fun x => decide ((f : Int) ≤ en x)) (yPre row i)
            have h2 : ∀ w, (yPre row w).length ≤ w := by
              intro w
              induction w with
              | zero => exact Nat.le_refl _
              | succ w ih =>
                cases e : row w with
                | none =>
                  rw [yPre_none e]
                  omega
                | some q =>
                  rw [yPre_some e, List.length_append]
                  simp only [List.length_singleton]
                  omega
            have h3 := h2 i
            show ((yPre row i).filter (fun x => decide ((f : Int) ≤ en x))).length < 17
            omega
          obtain ⟨d1, d2, d3, d4⟩ := pc_seat hT hY hA hp17 (fun g => hpn (List.mem_filter.mp g).1) hlen q
          subst d1
          obtain ⟨L2, hL2, h3⟩ := b_gb3r d2 hY hL' (pn_ret k)
          have eq : yGSr row f (i + 1) bg en fo = ((yGSr row f i bg en fo).ch ++ [p], (yGSr row f i bg en fo).bg, yU (yGSr row f i bg en fo).en p 52, yU (yGSr row f i bg en fo).fo p (-1)) := by
            unfold yGSr
            rw [yPre_some hp, List.filter_append, List.filter_cons, if_pos (by rw [decide_eq_true (by omega)]), List.filter_nil]
            have key : ∀ x, (x ∈ yPre row i ++ [p] ∧ (f : Int) ≤ en x) ↔ (x = p ∨ (x ∈ yPre row i ∧ (f : Int) ≤ en x)) := by
              intro x
              rw [List.mem_append, List.mem_singleton]
              constructor
              · rintro ⟨g1 | g1, g2⟩
                · exact Or.inr ⟨g1, g2⟩
                · exact Or.inl g1
              · rintro (g | ⟨g1, g2⟩)
                · exact ⟨Or.inr g, by rw [g]; omega⟩
                · exact ⟨Or.inl g1, g2⟩
            have f1 : (fun x => if x ∈ yPre row i ++ [p] ∧ (f : Int) ≤ en x then 52 else en x) = yU (fun x => if x ∈ yPre row i ∧ (f : Int) ≤ en x then 52 else en x) p 52 := by
              funext x
              by_cases g : x = p
              · rw [if_pos ((key x).mpr (Or.inl g)), g, yU_at]
              · rw [yU_ne g]
                by_cases g2 : x ∈ yPre row i ∧ (f : Int) ≤ en x
                · rw [if_pos ((key x).mpr (Or.inr g2)), if_pos g2]
                · rw [if_neg (fun z => g2 (((key x).mp z).resolve_left g)), if_neg g2]
            have f2 : (fun x => if x ∈ yPre row i ++ [p] ∧ (f : Int) ≤ en x then -1 else fo x) = yU (fun x => if x ∈ yPre row i ∧ (f : Int) ≤ en x then -1 else fo x) p (-1) := by
              funext x
              by_cases g : x = p
              · rw [if_pos ((key x).mpr (Or.inl g)), g, yU_at]
              · rw [yU_ne g]
                by_cases g2 : x ∈ yPre row i ∧ (f : Int) ≤ en x
                · rw [if_pos ((key x).mpr (Or.inr g2)), if_pos g2]
                · rw [if_neg (fun z => g2 (((key x).mp z).resolve_left g)), if_neg g2]
            rw [f1, f2]
          refine pc_gb2r hY hf hl hR m (i + 1) L2 H2 hi2 d2 (hF.tr d3) hr hen ?_ ?_ h3
          · rw [eq]
            exact d4
          · obtain ⟨g0, g1, g2, g3, -⟩ := hL2
            exact ⟨g0, g1, g2, by rw [g3, zz_add]; rfl, trivial⟩
theorem pc_gbr {f len : Nat} {row : Nat → Option Nat} {bg en fo : Nat → Int} (hT : HT H) (hY : Y = 32 ∨ Y = 38) (hf : f ≤ len) (hl : len ≤ 17) (hR : ∀ v w p : Nat, row v = some p → row w = some p → v = w) (hr : yRow H 31 len row) (hen : ∀ x, 0 ≤ en x ∧ en x ≤ 52) (hP : ycP H Y bg en fo)
    (h : Pn none m 3 0 [(0, .ref Y), (1, .ref 31), (2, .int (Int32.ofInt (f : Int)))] [] H r H') : r = .inl none ∧ HT H' ∧ yFr Y H H' ∧ ycA H' Y (yBk row f ([], bg, en, fo)) := by
  obtain ⟨L1, hL1, h1⟩ := b_gb0r hT hY ⟨rfl, rfl, rfl, trivial⟩ h
  have t1 := HT.pFI (x := Int32.ofInt 0) hT (kF_Y_10_0_false hY)
  have t2 := HT.pFI (x := Int32.ofInt 0) t1 (kF_Y_11_0_false hY)
  obtain ⟨L2, H2, m2, hL2, T2, F2, z1, z2, P2, h2⟩ := pc_gb1r (H0 := H) (f := f) (bg := bg) (en := en) (fo := fo) hY (by omega) m 0 L1 _ (Nat.zero_le _) t2 ((yFr.rf.put (by omega)).put (by omega)) (by rw [gI_ne (by omega), gI_fat hT (kF_Y_10_0_false hY)]) (gI_fat t1 (kF_Y_11_0_false hY)) (yGB.z (hP.cg (fun a b q1 q2 => by rw [gI_ne (by omega), gI_ne (by omega)]))) hL1 h1
  refine pc_gb2r (H0 := H) hY hf hl hR m2 0 L2 H2 (Nat.zero_le _) T2 F2 hr hen ?_ hL2 h2
  refine ⟨z1, fun i x hx => (by cases hx), ⟨Nat.zero_le _, fun x hx => (by cases hx)⟩, List.nodup_nil, fun q hq => ?_, fun x hx => (by cases hx), fun p hp => ?_⟩
  · rw [z2]
    exact bz_0.trans (decide_eq_false (fun g => by cases g)).symm
  · have h3 := P2 p hp
    have e1 : (yGSr row f 0 (fun x => if (f : Int) ≤ bg x then -1 else bg x) en fo).en p = en p := by
      show (if p ∈ yPre row 0 ∧ (f : Int) ≤ en p then 52 else en p) = en p
      exact if_neg (fun g => absurd g.1 List.not_mem_nil)
    have e2 : (yGSr row f 0 (fun x => if (f : Int) ≤ bg x then -1 else bg x) en fo).fo p = fo p := by
      show (if p ∈ yPre row 0 ∧ (f : Int) ≤ en p then -1 else fo p) = fo p
      exact if_neg (fun g => absurd g.1 List.not_mem_nil)
    rw [e1, e2]
    exact h3
/-- from Monday to Monday -/
theorem pc_plLr {f len : Nat} {row : Nat → Option Nat} {s0 : yC} (hY : Y = 32 ∨ Y = 38) (hJ : J = 3 ∨ J = 11) (hj : gR H0 Y 0 = J) (hE : jDead H0 J E) (hF : jFal H0 J E) (hf : f ≤ len) (hl : len ≤ 17) (hr : yRow H0 31 len row) (hR : ∀ v w p : Nat, row v = some p → row w = some p → v = w)
    (hWo : ∀ (H : mjH) (bg : Nat → Int) (w p : Nat), HT H → yFr Y H0 H → w < 17 → p < 17 → yWo E H Y bg w p) (hWr : ∀ w o p a h z, E.who o p a h z w = 0 ∨ E.who o p a h z w = 1 ∨ E.who o p a h z w = 2) : ∀ (m d : Nat) (L : mjL) (H : mjH), f + d ≤ len → HT H → yFr Y H0 H → ycA H Y (ycF E row f d s0) → (∀ x, x ∈ (ycF E row f d s0).ch → ∃ v, v < f + d ∧ row v = some x) → (ycF E row f d s0).ch.length ≤ f + d → LG L [(0, .ref Y), (1, .ref 31), (2, .int (Int32.ofInt (len : Int))), (4, .int (Int32.ofInt ((f + d : Nat) : Int)))] → Pn none m 2 9 L [] H r H' →
    r = .inl none ∧ HT H' ∧ yFr Y H0 H' ∧ ycA H' Y (ycB E 51 (ycF E row f (len - f) s0)) ∧ gI H' Y 8 = (gI H' Y 11 &&& Int32.ofInt 4095)
  | 0, _, _, _, _, _, _, _, _, _, _, h => Pn0 h
  | m + 1, d, L, H, hd, hT, hFr, hA, hin, hch, hL, h => by
    have hj1 : gR H Y 0 = J := (hFr.vR (by omega)).trans hj
    have hE1 : jDead H J E := hFr.dead hJ hY hE
    have hb := b_plLr hT hY hL h
    rw [zz_lt, zz_le, zz_le] at hb
    -- the end
    have fin : f + d = len → ∀ (L' : mjL) (r2 : Option Value ⊕ Nat) (H2 : mjH), LG L' [(0, .ref Y)] → Pn none m 5 0 [(0, .ref Y), (1, .int (Int32.ofInt 51))] [] H r2 H2 → ((∃ v, r2 = .inl v ∧ Pn none m 2 94 L' (v.toList ++ []) H2 r H') ∨ (∃ E, r2 = .inr E ∧ r = .inr E ∧ H' = H2)) → r = .inl none ∧ HT H' ∧ yFr Y H0 H' ∧ ycA H' Y (ycB E 51 (ycF E row f (len - f) s0)) ∧ gI H' Y 8 = (gI H' Y 11 &&& Int32.ofInt 4095) := by
      intro e0 L' r2 H2 hL' q k
      obtain ⟨d1, d2, d3, d4⟩ := pc_bury (w := 51) hT hY hJ hj1 hE1 (by omega) hA q
      subst d1
      obtain ⟨e1, e2⟩ := b_pl6r d2 hY hL' (pn_ret k)
      have t1 := HT.pFI (x := gI H2 Y 11 &&& Int32.ofInt 4095) d2 (kF_Y_8_0_false hY)
      rw [← e2] at t1
      rw [show len - f = d by omega]
      obtain ⟨a1, a2, a3, a5, a6, a8, a7⟩ := d4
      have n1 : ∀ a b, ¬ (a = Y ∧ b = 8) → gI H' a b = gI H2 a b := fun a b hab => by rw [e2, gI_ne hab]
      refine ⟨e1, t1, by rw [e2]; exact (hFr.tr d3).put (by omega), ⟨(n1 _ _ (by omega)).trans a1, fun i x hx => (n1 _ _ (by omega)).trans (a2 i x hx), a3, a5, fun q hq => by rw [n1 _ _ (by omega)]; exact a6 q hq, a8, a7.cg (fun a b q1 q2 => n1 _ _ (by omega))⟩, ?_⟩
      rw [n1 Y 11 (by omega), e2, gI_fat d2 (kF_Y_8_0_false hY)]
    rcases hb with ⟨c, -⟩ | ⟨-, ⟨c, L', hL', r2, H2, q, k⟩ | ⟨c, ⟨c2, -⟩ | ⟨-, L', hL', r2, H2, q, k⟩⟩⟩
    · omega
    · exact fin (by omega) L' r2 H2 hL' q k
    · omega
    -- a Monday
    have hw52 : f + d < 52 := by omega
    obtain ⟨d1, d2, d3, d4⟩ := pc_bury (w := f + d) hT hY hJ hj1 hE1 hw52 hA q
    subst d1
    have hFr2 := hFr.tr d3
    have hr2 := hr.fr hY (by omega) hFr2
    have hj2 : gR H2 Y 0 = J := (hFr2.vR (by omega)).trans hj
    have hE2 : jDead H2 J E := hFr2.dead hJ hY hE
    have hF2 : jFal H2 J E := hFr2.fal hJ hY hF
    have ri := hr2.1 (f + d) (by omega)
    obtain ⟨-, hb⟩ := b_pl2r d2 hY hL' (pn_ret k)
    rw [zz_cn (n := f + d)] at hb
    have hs : Int32.ofInt ((f + d : Nat) : Int) + Int32.ofInt 1 = Int32.ofInt ((f + (d + 1) : Nat) : Int) := by
      rw [zz_add]
      exact congrArg Int32.ofInt (by omega)
    have hin2 : ∀ x, x ∈ (ycB E (f + d) (ycF E row f d s0)).ch → ∃ v, v < f + d ∧ row v = some x := fun x hx => hin x (List.mem_filter.mp hx).1
    have hch2 : (ycB E (f + d) (ycF E row f d s0)).ch.length ≤ f + d := Nat.le_trans (List.length_filter_le _ _) hch
    cases hp : row (f + d) with
    | none =>
      rw [hp] at ri
      dsimp only at ri
      rw [ri, zz_lt, hs] at hb
      have eq : ycF E row f (d + 1) s0 = ycB E (f + d) (ycF E row f d s0) := ycW_none hp
      rcases hb with ⟨-, L2, hL2, h2⟩ | ⟨c, -⟩
      · refine pc_plLr hY hJ hj hE hF hf hl hr hR hWo hWr m (d + 1) L2 H2 (by omega) d2 hFr2 ?_ ?_ ?_ hL2 h2
        · rw [eq]
          exact d4
        · rw [eq]
          intro x hx
          obtain ⟨v, q1, q2⟩ := hin2 x hx
          exact ⟨v, by omega, q2⟩
        · rw [eq]
          omega
      · omega
    | some p =>
      have hp17 := (hr.2 (f + d) p hp).1
      rw [hp] at ri
      dsimp only at ri
      rw [ri, zz_lt, zz_le, hs] at hb
      have hpn : ¬ p ∈ (ycB E (f + d) (ycF E row f d s0)).ch := fun g => by
        obtain ⟨v, q1, q2⟩ := hin2 p g
        have := hR v (f + d) p q2 hp
        omega
      have eq : ycF E row f (d + 1) s0 = ycD E (f + d) p (ycB E (f + d) (ycF E row f d s0)) := ycW_some hp
      have hinA : ∀ x, x ∈ (ycF E row f (d + 1) s0).ch → x = p ∨ x ∈ (ycB E (f + d) (ycF E row f d s0)).ch := by
        rw [eq]
        generalize ycB E (f + d) (ycF E row f d s0) = s1
        intro x hx
        unfold ycD at hx
        split at hx
        · exact Or.inr hx
        · have sub : ∀ {bg en fo : Nat → Int} {z : Int} {st : Bool} (l : List Nat) (x : Nat), x ∈ (ycM E bg (f + d) p l st z en fo).1 → x ∈ l := fun {bg en fo z st} l x hx => ycM_in l st z en fo hx
          split at hx
          · rcases List.mem_append.mp hx with g | g
            · exact Or.inr (sub _ _ g)
            · exact Or.inl (List.mem_singleton.mp g)
          · exact Or.inr (sub _ _ hx)
      have hchA : (ycF E row f (d + 1) s0).ch.length ≤ f + (d + 1) := by
        rw [eq]
        generalize ycB E (f + d) (ycF E row f d s0) = s1 at hch2 ⊢
        unfold ycD
        have len := fun {bg en fo : Nat → Int} {z : Int} {st : Bool} (l : List Nat) => ycM_len (E := E) (w := f + d) (p := p) (vbg := bg) l st z en fo
        split
        · show s1.ch.length ≤ f + (d + 1)
          omega
        · split
          · show ((ycM E (yU s1.bg p ((f + d : Nat) : Int)) (f + d) p s1.ch true (s1.ch.length : Int) (yU s1.en p 52) (yU s1.fo p (-1))).1 ++ [p]).length ≤ f + (d + 1)
            have := len (bg := yU s1.bg p ((f + d : Nat) : Int)) (en := yU s1.en p 52) (fo := yU s1.fo p (-1)) (z := (s1.ch.length : Int)) (st := true) s1.ch
            rw [List.length_append, List.length_singleton]
            omega
          · show (ycM E (yU s1.bg p ((f + d : Nat) : Int)) (f + d) p s1.ch true (s1.ch.length : Int) (yU s1.en p 52) (yU s1.fo p (-1))).1.length ≤ f + (d + 1)
            have := len (bg := yU s1.bg p ((f + d : Nat) : Int)) (en := yU s1.en p 52) (fo := yU s1.fo p (-1)) (z := (s1.ch.length : Int)) (st := true) s1.ch
            omega
      have hinB : ∀ x, x ∈ (ycF E row f (d + 1) s0).ch → ∃ v, v < f + (d + 1) ∧ row v = some x := by
        intro x hx
        rcases hinA x hx with g | g
        · exact ⟨f + d, by omega, by rw [g]; exact hp⟩
        · obtain ⟨v, q1, q2⟩ := hin2 x g
          exact ⟨v, by omega, q2⟩
      have goon : ∀ (L2 : mjL) (H3 : mjH), HT H3 → yFr Y H0 H3 → ycA H3 Y (ycF E row f (d + 1) s0) → LG L2 [(0, .ref Y), (1, .ref 31), (2, .int (Int32.ofInt (len : Int))), (4, .int (Int32.ofInt ((f + (d + 1) : Nat) : Int)))] → Pn none m 2 9 L2 [] H3 r H' → r = .inl none ∧ HT H' ∧ yFr Y H0 H' ∧ ycA H' Y (ycB E 51 (ycF E row f (len - f) s0)) ∧ gI H' Y 8 = (gI H' Y 11 &&& Int32.ofInt 4095) :=
        fun L2 H3 k1 k2 k3 k4 k5 => pc_plLr hY hJ hj hE hF hf hl hr hR hWo hWr m (d + 1) L2 H3 (by omega) k1 k2 k3 hinB hchA k4 k5
      generalize hs1 : ycB E (f + d) (ycF E row f d s0) = s1 at *
      rcases hb with ⟨c, -⟩ | ⟨-, ⟨c, -⟩ | ⟨-, L2, hL2, r3, H3, q3, k3⟩⟩
      · omega
      · omega
      obtain ⟨f1, f2, f3, f4⟩ := pc_lives d2 hY hJ hj2 hE2 d4 hp17 (by omega) hpn q3
      subst f1
      have hb := b_pl3r f2 hY hL2 (pn_ret k3)
      rw [hs] at hb
      by_cases hdead : E.dead (f + d) p = true
      · rw [if_pos hdead] at hb f4
        have eqd : ycF E row f (d + 1) s0 = (s1.ch, yU s1.bg p ((f + d : Nat) : Int), yU s1.en p ((f + d : Nat) : Int), yU s1.fo p (-1)) := by
          rw [eq]
          unfold ycD
          rw [if_pos hdead]
        rcases hb with ⟨-, L3, hL3, h3⟩ | ⟨c, -⟩
        · exact goon L3 H3 f2 (hFr2.tr f3) (by rw [eqd]; exact f4) hL3 h3
        · exact absurd rfl c
      · rw [if_neg hdead] at hb f4
        rcases hb with ⟨c, -⟩ | ⟨-, L3, hL3, r4, H4, q4, k4⟩
        · rw [zz_eq] at c
          omega
        have hFr3 := hFr2.tr f3
        obtain ⟨g1, g2, g3, g4⟩ := pc_stands f2 hY hJ ((hFr3.vR (by omega)).trans hj) (hFr3.fal hJ hY hF) hp17 (by omega) hpn f4 (hWo H3 _ _ _ f2 hFr3 (by omega) hp17) (hWr (f + d) · p) q4
        subst g1
        have hb := b_pl4r g2 hY hL3 (pn_ret k4)
        rw [hs] at hb
        have hFr4 := hFr3.tr g3
        by_cases hst : (ycM E (yU s1.bg p ((f + d : Nat) : Int)) (f + d) p s1.ch true (s1.ch.length : Int) (yU s1.en p 52) (yU s1.fo p (-1))).2.1 = true
        · rw [if_pos hst] at hb
          have eqd : ycF E row f (d + 1) s0 = ((ycM E (yU s1.bg p ((f + d : Nat) : Int)) (f + d) p s1.ch true (s1.ch.length : Int) (yU s1.en p 52) (yU s1.fo p (-1))).1 ++ [p], yU s1.bg p ((f + d : Nat) : Int), yU (ycM E (yU s1.bg p ((f + d : Nat) : Int)) (f + d) p s1.ch true (s1.ch.length : Int) (yU s1.en p 52) (yU s1.fo p (-1))).2.2.1 p 52, yU (ycM E (yU s1.bg p ((f + d : Nat) : Int)) (f + d) p s1.ch true (s1.ch.length : Int) (yU s1.en p 52) (yU s1.fo p (-1))).2.2.2 p (-1)) := by
            rw [eq]
            unfold ycD
            rw [if_neg hdead, if_pos hst]
          rcases hb with ⟨c, -⟩ | ⟨-, L4, hL4, r5, H5, q5, k5⟩
          · rw [zz_eq] at c
            omega
          have hml : (ycM E (yU s1.bg p ((f + d : Nat) : Int)) (f + d) p s1.ch true (s1.ch.length : Int) (yU s1.en p 52) (yU s1.fo p (-1))).1.length ≤ s1.ch.length := ycM_len _ _ _ _ _
          obtain ⟨u1, u2, u3, u4⟩ := pc_seat g2 hY g4 hp17 (fun g => hpn (ycM_in _ _ _ _ _ g)) (show (ycM E (yU s1.bg p ((f + d : Nat) : Int)) (f + d) p s1.ch true (s1.ch.length : Int) (yU s1.en p 52) (yU s1.fo p (-1))).1.length < 17 by omega) q5
          subst u1
          obtain ⟨L5, hL5, h5⟩ := b_pl5r u2 hY hL4 (pn_ret k5)
          rw [hs] at hL5
          exact goon L5 H5 u2 (hFr4.tr u3) (by rw [eqd]; exact u4) hL5 h5
        · rw [if_neg hst] at hb
          have eqd : ycF E row f (d + 1) s0 = ((ycM E (yU s1.bg p ((f + d : Nat) : Int)) (f + d) p s1.ch true (s1.ch.length : Int) (yU s1.en p 52) (yU s1.fo p (-1))).1, yU s1.bg p ((f + d : Nat) : Int), (ycM E (yU s1.bg p ((f + d : Nat) : Int)) (f + d) p s1.ch true (s1.ch.length : Int) (yU s1.en p 52) (yU s1.fo p (-1))).2.2.1, (ycM E (yU s1.bg p ((f + d : Nat) : Int)) (f + d) p s1.ch true (s1.ch.length : Int) (yU s1.en p 52) (yU s1.fo p (-1))).2.2.2) := by
            rw [eq]
            unfold ycD
            rw [if_neg hdead, if_neg hst]
          rcases hb with ⟨-, L4, hL4, h4⟩ | ⟨c, -⟩
          · exact goon L4 H4 g2 hFr4 (by rw [eqd]; exact g4) hL4 h4
          · exact absurd rfl c
theorem pc_playr {f len : Nat} {row : Nat → Option Nat} {bg en fo : Nat → Int} (hT : HT H) (hY : Y = 32 ∨ Y = 38) (hJ : J = 3 ∨ J = 11) (hj : gR H Y 0 = J) (hE : jDead H J E) (hF : jFal H J E) (hf : f ≤ len) (hl : len ≤ 17) (hr : yRow H 31 len row) (hR : ∀ v w p : Nat, row v = some p → row w = some p → v = w) (hen : ∀ x, 0 ≤ en x ∧ en x ≤ 52) (hP : ycP H Y bg en fo)
    (hWo : ∀ (H1 : mjH) (bg : Nat → Int) (w p : Nat), HT H1 → yFr Y H H1 → w < 17 → p < 17 → yWo E H1 Y bg w p) (hWr : ∀ w o p a h z, E.who o p a h z w = 0 ∨ E.who o p a h z w = 1 ∨ E.who o p a h z w = 2)
    (h : Pn none m 2 0 [(0, .ref Y), (1, .ref 31), (2, .int (Int32.ofInt (len : Int))), (3, .int (Int32.ofInt (f : Int)))] [] H r H') :
    r = .inl none ∧ HT H' ∧ yFr Y H H' ∧ ycA H' Y (ycB E 51 (ycF E row f (len - f) (yBk row f ([], bg, en, fo)))) ∧ gI H' Y 8 = (gI H' Y 11 &&& Int32.ofInt 4095) := by
  obtain ⟨L1, hL1, r2, H2, q, k⟩ := b_pl0r hT hY ⟨rfl, rfl, rfl, rfl, trivial⟩ h
  obtain ⟨d1, d2, d3, d4⟩ := pc_gbr hT hY hf hl hR hr hen hP q
  subst d1
  obtain ⟨L2, hL2, h2⟩ := b_pl1r d2 hY hL1 (pn_ret k)
  refine pc_plLr (H0 := H) (s0 := yBk row f ([], bg, en, fo)) hY hJ hj hE hF hf hl hr hR hWo hWr m 0 L2 H2 hf d2 d3 d4 (fun x hx => yPre_mem.mp (List.mem_filter.mp hx).1) ?_ hL2 h2
  have h2 : ∀ w, (yPre row w).length ≤ w := by
    intro w
    induction w with
    | zero => exact Nat.le_refl _
    | succ w ih =>
      cases e : row w with
      | none =>
        rw [yPre_none e]
        omega
      | some q =>
        rw [yPre_some e, List.length_append]
        simp only [List.length_singleton]
        omega
  exact Nat.le_trans (List.length_filter_le _ _) (h2 f)
end PCPLr

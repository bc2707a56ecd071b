/-! FR: the same, with any relation that steps keep -/
section FR5
variable {CTS : List frMt} {sc : Option (List Int32)} {H H' : mjH} {r : Option Value ⊕ Nat}
/-- what holds of how it ends -/
def gEd (Rl : frMt → mjH → mjH → Prop) (M : frMt) (H : mjH) (r : Option Value ⊕ Nat) (H' : mjH) : Prop := HT H' ∧ Rl M H H' ∧ ∀ cv, r = .inl cv → match cv, M.2.2.2.1 with
  | some v, some a => frR a v
  | none, none => True
  | _, _ => False
/-- it ends, or comes to a stop -/
def gRs (Rl : frMt → mjH → mjH → Prop) (M : frMt) (m : Nat) (sc : Option (List Int32)) (H : mjH) (r : Option Value ⊕ Nat) (H' : mjH) : Prop := gEd Rl M H r H' ∨ ∃ (p m' : Nat) (s : frS) (L : mjL) (S : List Value) (H2 : mjH), frSt0 M p = true ∧ frEn M.2.2.2.2.1 p = some s ∧ m' ≤ m ∧ frLR s.1 L ∧ frSR s.2 S ∧ HT H2 ∧ Rl M H H2 ∧ Pn sc m' M.1 p L S H2 r H'
theorem gRs.up {Rl : frMt → mjH → mjH → Prop} (hTr : ∀ (M : frMt) (A B C : mjH), Rl M A B → Rl M B C → Rl M A C) {M : frMt} {m m' : Nat} {sc : Option (List Int32)} {H H1 : mjH} {r : Option Value ⊕ Nat} {H' : mjH} (h : gRs Rl M m' sc H1 r H') (hF : Rl M H H1) (hm : m' ≤ m) : gRs Rl M m sc H r H' := by
  rcases h with ⟨h1, h2, h3⟩ | ⟨p, m2, s, L, S, H2, a1, a2, a3, a4, a5, a6, a7, a8⟩
  · exact Or.inl ⟨h1, hTr _ _ _ _ hF h2, h3⟩
  · exact Or.inr ⟨p, m2, s, L, S, H2, a1, a2, Nat.le_trans a3 hm, a4, a5, a6, hTr _ _ _ _ hF a7, a8⟩
theorem gStep {Rl : frMt → mjH → mjH → Prop} {m : Nat} {M : frMt} {pc : Nat} {s : frS} {L : mjL} {S : List Value} {su : Nat × frS → Bool} (hT : HT H) (h : Pn sc (m + 1) M.1 pc L S H r H') (ck : frCk CTS M su pc s = true) (hL : frLR s.1 L) (hS : frSR s.2 S)
    (hW : ∀ H1, frFr M.2.2.1 H H1 → Rl M H H1) (hSb : ∀ (C : frMt), C ∈ CTS → frSub C.2.2.1 M.2.2.1 = true → ∀ H1, Rl C H H1 → Rl M H H1)
    (go : ∀ (t : Nat × frS) (L1 : mjL) (S1 : List Value) (H1 : mjH), su t = true → frLR t.2.1 L1 → frSR t.2.2 S1 → HT H1 → Rl M H H1 → Pn sc m M.1 t.1 L1 S1 H1 r H' → gRs Rl M (m + 1) sc H r H')
    (cal : ∀ (C : frMt), C ∈ CTS → ∀ (m' : Nat), m' ≤ m → ∀ (s0 : frS) (L0 : mjL) (r0 : Option Value ⊕ Nat) (H0 : mjH), frSu C.2.2.2.2.1 (0, s0) = true → frLR s0.1 L0 → frSR s0.2 [] → (Pn none m' C.1 0 L0 [] H r0 H0 ∧ C.2.2.2.2.2.2 = []) → gEd Rl C H r0 H0) : gRs Rl M (m + 1) sc H r H' := by
  have ret : ∀ {i : Instr} {y : Option FieldType} {v : Option Value} {a b : frV}, (i = .ireturn ∨ i = .lreturn ∨ i = .areturn) → mjRv i y S = some v → s.2 = [a] → M.2.2.2.1 = some b → frLe a b = true → gEd Rl M H (.inl v) H := by
    intro i y v a b hi hv hs hb hle
    obtain ⟨w, w1, w2⟩ := mjRv_ok hi hv
    rw [hs, w1] at hS
    refine ⟨hT, (hW _ frFr.rf), fun cv hcv => ?_⟩
    cases hcv
    rw [w2, hb]
    exact frLe_ok hle hS.1
  have call : ∀ {x : mjX} {f d c s0 : Nat}, f < m → frCa CTS M su x pc s = true → mjCall (mjEx f) sc d M.1 pc x (frHh M.1) L S H = some (r, H', c, s0) → gRs Rl M (m + 1) sc H r H' := by
    intro x f d c s0 hf hc hx
    unfold frCa at hc
    split at hc
    · cases hc
    split at hc
    · cases hc
    rename_i C hC
    simp only [Bool.and_eq_true] at hc
    obtain ⟨⟨c1, c2⟩, c3, c4⟩ := hc
    have c1 := Nat.eq_of_beq_eq_true c1
    split at c4
    · cases c4
    rename_i g hg
    simp only [Bool.and_eq_true] at c4
    obtain ⟨⟨c5, c6⟩, c7⟩ := c4
    obtain ⟨d', k2, k3, r2, H2, q, k⟩ := frCall_go (by rw [← c1]; exact hg) hx
    have hCm : C ∈ CTS := List.mem_of_getElem? hC
    have c3 : C.2.2.2.2.2.2 = [] := by
      split at c3
      · rename_i e
        exact e
      · cases c3
    have ed : gEd Rl C H r2 H2 := cal C hCm m (Nat.le_refl m) (frAg 0 (s.2.take g).reverse, []) _ r2 H2 c5 (frAg_ok (frSR_rev (frSR_take hS))) trivial ⟨⟨f, d', k2, k3, hf, by rw [c1]; exact q⟩, c3⟩
    obtain ⟨t1, t2, t3⟩ := ed
    have t2 := hSb C hCm c2 H2 t2
    rcases k with ⟨v, rfl, d3, c8, s8, e8⟩ | ⟨E, rfl, ⟨e9, e10⟩ | ⟨q0, q1, j, p, d3, c8, s8, hp, e8⟩⟩
    · refine go (pc + 3, (s.1, C.2.2.2.1.toList ++ s.2.drop g)) L (v.toList ++ S.drop g) H2 c6 hL ?_ t1 t2 ⟨f, d3, c8, s8, hf, e8⟩
      refine frSR_app ?_ (frSR_drop hS)
      have t4 := t3 v rfl
      revert t4
      cases v with
      | none =>
        cases C.2.2.2.1 with
        | none => exact fun _ => trivial
        | some _ => exact fun z => z.elim
      | some w =>
        cases C.2.2.2.1 with
        | none => exact fun z => z.elim
        | some _ => exact fun z => ⟨z, trivial⟩
    · rw [e9, e10]
      exact Or.inl ⟨t1, t2, fun cv hcv => by cases hcv⟩
    · have hq := List.all_eq_true.mp c7 q0 q1
      rcases hp with ⟨n, y, y1, y2, y3⟩ | ⟨n, y, y1, y2, y3⟩
      · rw [y1] at hq
        rw [y2, y3] at e8
        exact go (q0.2.2.1 + 1, (frDel n s.1, [])) _ [] H2 hq (frDel_ok hL) trivial t1 t2 ⟨f, d3, c8, s8, hf, e8⟩
      · rw [y1] at hq
        rw [y2, y3] at e8
        exact go (q0.2.2.1 + 2, (frDel n s.1, [])) _ [] H2 hq (frDel_ok hL) trivial t1 t2 ⟨f, d3, c8, s8, hf, e8⟩
  unfold frCk at ck
  split at ck
  · cases ck
  rename_i x hx
  have h0 := h
  obtain ⟨f, d, c, s0, hf, h⟩ := pn_go h
  unfold mjStep at h
  rw [hx] at h
  dsimp only at h
  split at h
  · cases h
  rename_i y nL rt own hh np stt hM0
  have hhe : hh = frHh M.1 := by
    unfold frHh
    rw [hM0]
  rw [hhe] at h
  split at ck
  all_goals rename_i hxi
  all_goals try rw [hxi] at h
  all_goals try dsimp only at h
  · split at ck
    · rename_i a b e1 e2
      split at h
      · rename_i v hv
        cases h
        exact Or.inl (ret (Or.inl rfl) hv e1 e2 ck)
      · cases h
    · cases ck
  · split at ck
    · rename_i a b e1 e2
      split at h
      · rename_i v hv
        cases h
        exact Or.inl (ret (Or.inr (Or.inl rfl)) hv e1 e2 ck)
      · cases h
    · cases ck
  · split at ck
    · rename_i a b e1 e2
      split at h
      · rename_i v hv
        cases h
        exact Or.inl (ret (Or.inr (Or.inr rfl)) hv e1 e2 ck)
      · cases h
    · cases ck
  · split at ck
    · rename_i e2
      split at h
      · rename_i v hv
        have hv2 : v = none := by
          unfold mjRv at hv
          dsimp only at hv
          split at hv
          · split at hv
            · cases hv
              rfl
            · cases hv
          · cases hv
        cases h
        refine Or.inl ⟨hT, (hW _ frFr.rf), fun cv hcv => ?_⟩
        cases hcv
        rw [hv2, e2]
        trivial
      · cases h
    · cases ck
  · have ck : (!Nat.beq x.2.2.2.1 0) = true := ck
    rw [if_neg (fun e => by rw [e] at ck; cases ck)] at h
    split at h
    · cases h
      exact Or.inl ⟨hT, (hW _ frFr.rf), fun cv hcv => by cases hcv⟩
    · cases h
  · split at ck
    · rename_i e
      rw [if_pos (Nat.eq_of_beq_eq_true e)] at h
      split at h
      · split at h
        · exact go (pc + 3, (s.1, s.2.drop 1)) L _ H ck hL (frSR_drop (n := 1) hS) hT (hW _ frFr.rf) ⟨f, d, c, s0, hf, h⟩
        · cases h
      · cases h
    · rename_i e
      rw [if_neg (Nat.ne_of_beq_eq_false e)] at h
      exact call hf ck h
  · split at ck
    · rename_i e
      rw [if_pos (Or.inl (Nat.eq_of_beq_eq_true e))] at h
      unfold mjText at h
      rw [if_pos (Nat.eq_of_beq_eq_true e)] at h
      split at h
      · split at h
        · split at h
          · exact go (pc + 3, (s.1, .inr false :: s.2.drop 1)) L _ H ck hL (frSR_i (n := 1) hS) hT (hW _ frFr.rf) ⟨f, d, c, s0, hf, h⟩
          · cases h
        · cases h
      · cases h
    · rename_i e
      split at ck
      · rename_i e2
        rw [if_pos (Or.inr (Nat.eq_of_beq_eq_true e2))] at h
        unfold mjText at h
        rw [if_neg (Nat.ne_of_beq_eq_false e)] at h
        split at h
        · split at h
          · split at h
            · split at h
              · exact go (pc + 3, (s.1, .inr false :: s.2.drop 2)) L _ H ck hL (frSR_i (n := 2) hS) hT (hW _ frFr.rf) ⟨f, d, c, s0, hf, h⟩
              · cases h
            · cases h
          · cases h
        · cases h
      · rename_i e2
        rw [if_neg (fun z => z.elim (Nat.ne_of_beq_eq_false e) (Nat.ne_of_beq_eq_false e2))] at h
        exact call hf ck h
  · split at ck
    · rename_i e
      rw [Bool.or_eq_true] at e
      split at h
      · split at h
        · split at h
          · exact go (pc + 3, (s.1, .inr false :: s.2.drop 2)) L _ H ck hL (frSR_i (n := 2) hS) hT (hW _ frFr.rf) ⟨f, d, c, s0, hf, h⟩
          · cases h
        · cases h
      · rename_i n1
        split at h
        · split at h
          · split at h
            · exact go (pc + 3, (s.1, .inr false :: s.2.drop 2)) L _ H ck hL (frSR_i (n := 2) hS) hT (hW _ frFr.rf) ⟨f, d, c, s0, hf, h⟩
            · cases h
          · cases h
        · rename_i n2
          exact (e.elim (fun z => n1 (Nat.eq_of_beq_eq_true z)) (fun z => n2 (Nat.eq_of_beq_eq_true z))).elim
    · rename_i e
      rw [Bool.or_eq_false_iff] at e
      rw [if_neg (Nat.ne_of_beq_eq_false e.1), if_neg (Nat.ne_of_beq_eq_false e.2)] at h
      exact call hf ck h
  · clear h
    split at ck
    · rename_i l hl
      obtain ⟨hn, hp⟩ := frTr1_no (S := S) (sc := sc) (H := H) hl
      obtain ⟨f2, d2, c2, s2, hf2, h2⟩ := pn_pl hx hp h0
      split at h2
      · rename_i p' L' S' ea
        obtain ⟨t, t1, t2, t3, t4⟩ := frTr1_ok hl hL hS ea
        exact go t L' S' H (List.all_eq_true.mp ck t t1) t3 t4 hT (hW _ frFr.rf) (by rw [t2]; exact ⟨f2, d2, c2, s2, hf2, h2⟩)
      · rw [hn] at h2
        cases h2
    · split at ck
      · rename_i t ht
        obtain ⟨hn, hp⟩ := frTr2_no (b := x.2.2.2.1) (L := L) (S := S) ht
        obtain ⟨f2, d2, c2, s2, hf2, h2⟩ := pn_pl hx hp h0
        rw [hn] at h2
        dsimp only at h2
        split at h2
        · rename_i p' S' H1 eh
          obtain ⟨t1, t2, t3, t4, t5⟩ := frTr2_ok ht hT hS eh
          exact go t L S' H1 ck (by rw [t2]; exact hL) t3 t4 (hW _ t5) (by rw [t1]; exact ⟨f2, d2, c2, s2, hf2, h2⟩)
        · cases h2
      · cases ck
theorem gMain {Rl : frMt → mjH → mjH → Prop} {sp : frMt → Bool} (hRf : ∀ M H, Rl M H H) (hTr : ∀ (M : frMt) (A B C : mjH), Rl M A B → Rl M B C → Rl M A C) (hW : ∀ (M : frMt), M ∈ CTS → sp M = false → ∀ H H1, HT H → frFr M.2.2.1 H H1 → Rl M H H1) (hSb : ∀ (M C : frMt), M ∈ CTS → C ∈ CTS → frSub C.2.2.1 M.2.2.1 = true → ∀ H H1, Rl C H H1 → Rl M H H1)
    (hsp : ∀ (C : frMt), C ∈ CTS → sp C = true → ∀ (m : Nat) (s0 : frS) (L0 : mjL) (H : mjH) (r0 : Option Value ⊕ Nat) (H0 : mjH), frSu C.2.2.2.2.1 (0, s0) = true → frLR s0.1 L0 → HT H → Pn none m C.1 0 L0 [] H r0 H0 → gEd Rl C H r0 H0) (hall : ∀ M, M ∈ CTS → sp M = false → frOk1 CTS M = true) : ∀ (m : Nat) (M : frMt), M ∈ CTS → sp M = false → ∀ (n pc : Nat) (s : frS), frWk CTS M n (pc, s) = true → ∀ (sc : Option (List Int32)) (L : mjL) (S : List Value) (H : mjH) (r : Option Value ⊕ Nat) (H' : mjH), frLR s.1 L → frSR s.2 S → HT H → Pn sc m M.1 pc L S H r H' → gRs Rl M m sc H r H'
  | 0, M, hM, hs0, n, pc, s, he, sc, L, S, H, r, H', hL, hS, hT, h => Pn0 h
  | m + 1, M, hM, hs0, n, pc, s, he, sc, L, S, H, r, H', hL, hS, hT, h => by
    have two : (∃ u, frEn M.2.2.2.2.1 pc = some u ∧ frSLe s u = true) ∨ ∃ n', frCk CTS M (frWk CTS M n') pc s = true := by
      cases n with
      | zero =>
        unfold frWk frSu at he
        dsimp only at he
        split at he
        · rename_i u hu
          exact Or.inl ⟨u, hu, he⟩
        · cases he
      | succ n =>
        unfold frWk at he
        dsimp only at he
        split at he
        · rename_i u hu
          exact Or.inl ⟨u, hu, he⟩
        · exact Or.inr ⟨n, he⟩
    have main : ∀ (s : frS) (n : Nat), frCk CTS M (frWk CTS M n) pc s = true → frLR s.1 L → frSR s.2 S → gRs Rl M (m + 1) sc H r H' := by
      clear two he hL hS s n
      intro s n ck hL hS
      refine gStep hT h ck hL hS (fun H1 => hW M hM hs0 H H1 hT) (fun C hC hb H1 => hSb M C hM hC hb H H1) (fun t L1 S1 H1 g1 g2 g3 g4 g5 g6 => (gMain hRf hTr hW hSb hsp hall m M hM hs0 n t.1 t.2 g1 sc L1 S1 H1 r H' g2 g3 g4 g6).up hTr g5 (Nat.le_succ m)) (fun C hC m' hm s0 L0 r0 H0 k1 k2 k3 k4 => ?_)
      obtain ⟨hc1, hc2⟩ := k4
      cases hsC : sp C with
      | true => exact hsp C hC hsC m' s0 L0 H r0 H0 k1 k2 hT hc1
      | false =>
        rcases gMain hRf hTr hW hSb hsp hall m' C hC hsC 0 0 s0 k1 none L0 [] H r0 H0 k2 k3 hT hc1 with ih | ⟨p, _, _, _, _, _, a1, _⟩
        · exact ih
        · unfold frSt0 at a1
          rw [hc2] at a1
          cases a1
    rcases two with ⟨u, hu, hle⟩ | ⟨n', hck⟩
    · obtain ⟨k1, k2⟩ := frSLe_ok hle hL hS
      by_cases hst : frSt0 M pc = true
      · exact Or.inr ⟨pc, m + 1, u, L, S, H, hst, hu, Nat.le_refl _, k1, k2, hT, hRf M H, h⟩
      · have := List.all_eq_true.mp (hall M hM hs0) (pc, u) (frEn_mem hu)
        rw [Bool.or_eq_true] at this
        exact main u 400 (this.resolve_left hst) k1 k2
    · exact main s n' hck hL hS
end FR5

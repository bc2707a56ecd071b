/-! AJ: the law on fresh objects -/
section AJLAW
theorem aPreL_use {P : aSt → Bool} (h : aPreL P = true) : ∃ s2, aSeg (some aAny6) 8 aS1 = some s2 ∧ aAt39 s2 = true ∧ P s2 = true := by
  unfold aPreL at h
  split at h
  · cases h
  · rename_i s2 e2
    simp only [Bool.and_eq_true] at h
    exact ⟨s2, e2, h.1, h.2⟩
theorem aAnyN_r : ∀ (xs : List Int32), aSR (List.replicate xs.length aAnyI) (xs.map .int)
  | [] => trivial
  | x :: xs => ⟨aAnyI_r x, aAnyN_r xs⟩
theorem and63 (z : Int32) : ∃ op : Nat, op < 64 ∧ z &&& 63 = Int32.ofNat op := by
  refine ⟨(z &&& 63).toBitVec.toNat, ?_, ?_⟩
  · show (z.toBitVec &&& 63#32).toNat < 64
    rw [BitVec.toNat_and]
    exact Nat.lt_of_le_of_lt Nat.and_le_right (by decide)
  · apply Int32.toBitVec_inj.mp
    show _ = BitVec.ofNat 32 _
    rw [BitVec.ofNat_toNat, BitVec.setWidth_eq]
def aCutsAll : List (Nat × List (List Int)) := aCuts0 ++ (aCuts1 ++ (aCuts2 ++ (aCuts3 ++ (aCuts4 ++ (aCuts5 ++ aCuts6)))))
theorem aCuts_all : (List.range 64).all (fun op => Nat.beq op 33 || (Nat.beq op 32 || aCutsAll.any (fun q => Nat.beq q.1 op && Nat.beq q.2.length 5))) = true := by decide +kernel
theorem aOps_use {n : Nat} {ops : List (Nat × List (List Int))} {s2 : aSt} (h : aPreL (aOps n ops) = true) (h2 : aSeg (some aAny6) 8 aS1 = some s2) {q : Nat × List (List Int)} (hq : q ∈ ops) : aOp n q.1 q.2 s2 = true := by
  obtain ⟨t2, e2, -, h3⟩ := aPreL_use h
  cases Option.some.inj (h2.symm.trans e2)
  exact List.all_eq_true.mp h3 q hq
theorem aOp_ok {n op : Nat} {cuts : List (List Int)} {s2 : aSt} (h : aOp n op cuts s2 = true) (hc : cuts.length = 5) {xs : List Int32} (hx : xs.length = 6) {cF : List cFr} {cl : mjL} {cs : List Value} {H : mjH} (hR : aRel (aTop op s2) cF cl cs H) : mjRs mjZ1 (some xs) (aTop op s2) cF cl cs H := by
  obtain ⟨b, hb, hs⟩ := aGrid_r (cs := [] :: cuts) (xs := xs) (by rw [hx, List.length_cons, hc])
  exact aGo_ok (scrA := some b) (scr := some xs) hs n (List.all_eq_true.mp h b hb) hR
theorem allCut {α : Type} {l : List α} {f : α → Bool} (k m : Nat) (h1 : ((l.drop 0).take k).all f = true) (h2 : ((l.drop k).take m).all f = true) (hm : l.length ≤ k + m) : l.all f = true := by
  rw [List.drop_zero] at h1
  rw [List.take_of_length_le (by rw [List.length_drop]; omega)] at h2
  rw [← List.take_append_drop k l, List.all_append, h1, h2]
  rfl
theorem allStep {α : Type} {l : List α} {f : α → Bool} (o m : Nat) (h1 : ((l.drop o).take m).all f = true) (h2 : (l.drop (o + m)).all f = true) : (l.drop o).all f = true := by
  rw [← List.take_append_drop m (l.drop o), List.all_append, h1, List.drop_drop, h2]
  rfl
theorem allEnd {α : Type} {l : List α} {f : α → Bool} (o m : Nat) (h1 : ((l.drop o).take m).all f = true) (hm : l.length ≤ o + m) : (l.drop o).all f = true := by
  rw [List.take_of_length_le (by rw [List.length_drop]; omega)] at h1
  exact h1
theorem aOp32 {s2 : aSt} (h2 : aSeg (some aAny6) 8 aS1 = some s2) : aOp 30000 32 aCuts32 s2 = true := by
  obtain ⟨t2, e2, -, h3⟩ := aPreL_use aCk_32a
  cases Option.some.inj (h2.symm.trans e2)
  obtain ⟨t3, e3, -, h4⟩ := aPreL_use aCk_32b
  cases Option.some.inj (h2.symm.trans e3)
  exact allCut 4 10 h3 h4 (by decide +kernel)
theorem aPreL_at {P : aSt → Bool} {s2 : aSt} (h2 : aSeg (some aAny6) 8 aS1 = some s2) (h : aPreL P = true) : P s2 = true := by
  obtain ⟨t2, e2, -, h3⟩ := aPreL_use h
  cases Option.some.inj (h2.symm.trans e2)
  exact h3
theorem aOp33 {s2 : aSt} (h2 : aSeg (some aAny6) 8 aS1 = some s2) {xs : List Int32} (hx : xs.length = 6) {cF : List cFr} {cl : mjL} {cs : List Value} {H : mjH} (hR : aRel (aTop 33 s2) cF cl cs H) : mjRs mjZ1 (some xs) (aTop 33 s2) cF cl cs H := by
  have hall : ((aGrid ([] :: aCuts33)).drop 0).all (fun b => aGoS (aQs (aHpOf s2)) (some b) 20000 (aTop 33 s2)) = true :=
    allStep 0 65 (aPreL_at h2 aCk_33_0) <|
    allStep 65 16 (aPreL_at h2 aCk_33_65) <|
    allStep 81 7 (aPreL_at h2 aCk_33_81) <|
    allStep 88 5 (aPreL_at h2 aCk_33_88) <|
    allStep 93 5 (aPreL_at h2 aCk_33_93) <|
    allStep 98 4 (aPreL_at h2 aCk_33_98) <|
    allStep 102 4 (aPreL_at h2 aCk_33_102) <|
    allStep 106 3 (aPreL_at h2 aCk_33_106) <|
    allStep 109 3 (aPreL_at h2 aCk_33_109) <|
    allStep 112 3 (aPreL_at h2 aCk_33_112) <|
    allStep 115 3 (aPreL_at h2 aCk_33_115) <|
    allStep 118 3 (aPreL_at h2 aCk_33_118) <|
    allStep 121 2 (aPreL_at h2 aCk_33_121) <|
    allStep 123 2 (aPreL_at h2 aCk_33_123) <|
    allEnd 125 70 (aPreL_at h2 aCk_33_125) (by decide +kernel)
  rw [List.drop_zero] at hall
  obtain ⟨b, hb, hs⟩ := aGrid_r (cs := [] :: aCuts33) (xs := xs) (by rw [hx]; rfl)
  exact aGoS_ok (scrA := some b) (scr := some xs) hs 20000 (List.all_eq_true.mp hall b hb) hR
theorem mj_law0 (xs : List Int32) (hxs : xs.length ≤ 6) : mjRs mjZ1 (some xs) aS0 [] [(0, .ref mjScr)] [] [] := by
  have hR0 : aRel aS0 [] [(0, .ref mjScr)] [] [] := ⟨trivial, ⟨⟨rfl, rfl⟩, trivial⟩, trivial, rfl, fun i e h => by simp at h⟩
  have hboot := aS1_ok
  split at hboot
  · rename_i s1 e1
    obtain ⟨cF1, cl1, cs1, H1, r1, g1⟩ := aSeg_ok (Z := mjZ1) (scrA := none) (scr := some xs) trivial 49200 e1 hR0
    obtain ⟨r2, g2⟩ := aLeS_ok (Z := mjZ1) (scr := some xs) hboot rfl r1
    refine g1 (g2 ?_)
    clear g1 g2 r1 e1 hboot
    by_cases h6 : xs.length = 6
    · obtain ⟨s2, e2, e3, -⟩ := aPreL_use aCk_0
      have hA : aXR (some aAny6) (some xs) := by
        have := aAnyN_r xs
        rw [h6] at this
        exact this
      obtain ⟨cF2, cl2, cs2, H2, r3, g3⟩ := aSeg_ok (Z := mjZ1) hA 8 e2 r2
      refine g3 ?_
      have key : ∀ op : Nat, op < 64 → ∀ (cF : List cFr) (cl : mjL) (cs : List Value) (H : mjH), aRel (aTop op s2) cF cl cs H → mjRs mjZ1 (some xs) (aTop op s2) cF cl cs H := by
        intro op hop cF cl cs H hR
        by_cases hne : op = 33
        · subst hne
          exact aOp33 e2 h6 hR
        by_cases hne2 : op = 32
        · subst hne2
          exact aOp_ok (aOp32 e2) rfl h6 hR
        · have h := List.all_eq_true.mp aCuts_all op (List.mem_range.mpr hop)
          rw [Bool.or_eq_true] at h
          have h := h.resolve_left (fun q => hne (Nat.eq_of_beq_eq_true q))
          rw [Bool.or_eq_true] at h
          have h := h.resolve_left (fun q => hne2 (Nat.eq_of_beq_eq_true q))
          obtain ⟨q, hq, hq2⟩ := List.any_eq_true.mp h
          rw [Bool.and_eq_true] at hq2
          have hq1 : q.1 = op := Nat.eq_of_beq_eq_true hq2.1
          have hq5 : q.2.length = 5 := Nat.eq_of_beq_eq_true hq2.2
          have ho : aOp 30000 q.1 q.2 s2 = true := by
            unfold aCutsAll at hq
            rcases List.mem_append.mp hq with hq | hq
            · exact aOps_use aCk_0 e2 hq
            rcases List.mem_append.mp hq with hq | hq
            · exact aOps_use aCk_1 e2 hq
            rcases List.mem_append.mp hq with hq | hq
            · exact aOps_use aCk_2 e2 hq
            rcases List.mem_append.mp hq with hq | hq
            · exact aOps_use aCk_3 e2 hq
            rcases List.mem_append.mp hq with hq | hq
            · exact aOps_use aCk_4 e2 hq
            rcases List.mem_append.mp hq with hq | hq
            · exact aOps_use aCk_5 e2 hq
            · exact aOps_use aCk_6 e2 hq
          rw [hq1] at ho
          exact aOp_ok ho hq5 h6 hR
      clear e2
      obtain ⟨F, d, k, pc, ls, st, hp, C, S⟩ := s2
      unfold aAt39 at e3
      dsimp only at e3
      simp only [Bool.and_eq_true] at e3
      obtain ⟨⟨⟨hF, hk⟩, hpc⟩, hst⟩ := e3
      have hk : k = mjLaw := Nat.eq_of_beq_eq_true hk
      have hpc : pc = 39 := Nat.eq_of_beq_eq_true hpc
      subst hk hpc
      split at hst
      · rename_i z w
        simp only [Bool.and_eq_true, decide_eq_true_eq] at hst
        obtain ⟨rfl, hw⟩ := hst
        have hw : aK w = 0 := Nat.eq_of_beq_eq_true hw
        obtain ⟨q1, q2, q3, q4⟩ := r3
        obtain ⟨v, vs, rfl, h1, h2⟩ := aSR_c q3
        obtain ⟨v2, vs2, rfl, h3, h4⟩ := aSR_c h2
        cases aSR_n h4
        cases (show v = .int 63 from h1)
        obtain ⟨z, rfl⟩ := aK0 h3 hw
        obtain ⟨op, hop, hz⟩ := and63 z
        have hR : aRel (aTop op (F, d, mjLaw, 39, ls, [.inl (.int 63), w], hp, C, S)) cF2 cl2 [.int (Int32.ofNat op)] H2 := ⟨q1, q2, ⟨rfl, trivial⟩, q4⟩
        have hfin := key op hop cF2 cl2 _ H2 hR
        have hx : mjAtI mjLaw 39 = some (.iand, 1, 0, 0, 0) := rfl
        have hM : mjM mjLaw = some (x, 8, ret, R_law, [], 1, true) := rfl
        exact mjRn.plain (pc' := 40) (ls' := cl2) (st' := [.int (Int32.ofNat op)]) (hp' := H2) (fun rec => by simp only [mjStep, hx, hM, mjAlu]; rw [hz]) hfin
      · cases hst
    · have h := List.all_eq_true.mp aCk_short xs.length (List.mem_range.mpr (by omega))
      exact aGo_ok (scrA := some (List.replicate xs.length aAnyI)) (scr := some xs) (aAnyN_r xs) 20 h r2
  · cases hboot
theorem mj_law (xs : List Int32) (h : xs.length ≤ 6) : ∃ (f : Nat) (hp' : mjH) (dc ds : Nat), mjEx f (some xs) 2040 mjLaw 0 [(0, .ref mjScr)] [] [] = some (.inl (some (.int 1)), hp', dc, ds) ∧ dc ≤ 600002 ∧ ds ≤ 7302232 := by
  obtain ⟨f, o, h1, h2, h3, h4⟩ := mj_law0 xs h
  obtain ⟨o1, o2, o3, o4⟩ := o
  refine ⟨f, o2, o3, o4, ?_, by simpa [aS0] using h3, by simpa [aS0] using h4⟩
  have h2 : o1 = .inl (some (.int 1)) := h2
  subst h2
  exact h1
end AJLAW

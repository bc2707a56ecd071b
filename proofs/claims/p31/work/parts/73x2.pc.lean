/-! PC: one step of a run that ends -/
section PCSTEP
def Pn (sc : Option (List Int32)) (m k pc : Nat) (L : mjL) (S : List Value) (H : mjH) (r : Option Value ⊕ Nat) (H' : mjH) : Prop := ∃ f d c s : Nat, f < m ∧ mjEx f sc d k pc L S H = some (r, H', c, s)
variable {sc : Option (List Int32)} {m k pc pc' : Nat} {L L' : mjL} {S S' : List Value} {H H' : mjH} {r : Option Value ⊕ Nat} {x : mjX}
theorem Pn.mono {m' : Nat} (h : Pn sc m k pc L S H r H') (hm : m ≤ m') : Pn sc m' k pc L S H r H' := by
  obtain ⟨f, d, c, s, hf, h⟩ := h
  exact ⟨f, d, c, s, by omega, h⟩
theorem Pn.su (h : Pn sc m k pc L S H r H') : Pn sc (m + 1) k pc L S H r H' := h.mono (Nat.le_succ m)
def isPl (i : Instr) : Bool := match i with
  | .ireturn => false
  | .lreturn => false
  | .areturn => false
  | .return_ => false
  | .new _ => false
  | .newarray _ => false
  | .anewarray _ => false
  | .multianewarray _ _ => false
  | .invokespecial _ => false
  | .invokevirtual _ => false
  | .invokestatic _ => false
  | _ => true
/-- a run's first step -/
theorem pn_go (h : Pn sc (m + 1) k pc L S H r H') : ∃ f d c s : Nat, f < m ∧ mjStep (mjEx f) sc d k pc L S H = some (r, H', c, s) := by
  obtain ⟨f, d, c, s, hf, h⟩ := h
  cases f with
  | zero => cases h
  | succ f => exact ⟨f, d, c, s, by omega, h⟩
theorem pn_pl (hx : mjAtI k pc = some x) (hp : isPl x.1 = true) (h : Pn sc (m + 1) k pc L S H r H') : ∃ f d c s : Nat, f < m ∧ (match mjAlu x.1 pc x.2.2.2.1 L S with
        | some (pc', ls', st') => mjEx f sc d k pc' ls' st' H
        | none => match mjHp sc x pc S H with
          | some (pc', st', hp') => mjEx f sc d k pc' L st' hp'
          | none => none) = some (r, H', c, s) := by
  obtain ⟨f, d, c, s, hf, h⟩ := pn_go h
  refine ⟨f, d, c, s, hf, ?_⟩
  unfold mjStep at h
  rw [hx] at h
  dsimp only at h
  split at h
  · cases h
  · split at h <;> first | exact h | (rename_i e; rw [e] at hp; cases hp)
theorem pnAlu (h : Pn sc (m + 1) k pc L S H r H') (hx : mjAtI k pc = some x) (he : mjAlu x.1 pc x.2.2.2.1 L S = some (pc', L', S')) (hp : isPl x.1 = true) : Pn sc m k pc' L' S' H r H' := by
  obtain ⟨f, d, c, s, hf, h⟩ := pn_pl hx hp h
  rw [he] at h
  exact ⟨f, d, c, s, hf, h⟩
theorem pnA (h : Pn sc m k pc L S H r H') (hx : mjAtI k pc = some x) (he : mjAlu x.1 pc x.2.2.2.1 L S = some (pc', L', S')) (hp : isPl x.1 = true) : Pn sc m k pc' L' S' H r H' := pnAlu h.su hx he hp
theorem pnHp (h : Pn sc m k pc L S H r H') (hx : mjAtI k pc = some x) (ha : mjAlu x.1 pc x.2.2.2.1 L S = none) (hp : isPl x.1 = true) : ∃ pc' S' H2, mjHp sc x pc S H = some (pc', S', H2) ∧ Pn sc m k pc' L S' H2 r H' := by
  obtain ⟨f, d, c, s, hf, h⟩ := pn_pl hx hp h.su
  rw [ha] at h
  dsimp only at h
  split at h
  · rename_i a b e he
    exact ⟨a, b, e, he, f, d, c, s, hf, h⟩
  · cases h
variable {q n a b w i j t N : Nat} {y z : Int32} {u v : Int64}
/-- constants -/
theorem pnBi {z : Int} (h : Pn sc m k pc L S H r H') (hx : mjAtI k pc = some (.bipush z, n, a, b, w)) (e : (Int8.ofInt z).toInt32 = Int32.ofInt z) : Pn sc m k (pc + 2) L (.int (Int32.ofInt z) :: S) H r H' := by
  have h := pnA (pc' := pc + 2) (L' := L) (S' := .int (Int8.ofInt z).toInt32 :: S) h hx rfl rfl
  rw [e] at h
  exact h
theorem pnSi {z : Int} (h : Pn sc m k pc L S H r H') (hx : mjAtI k pc = some (.sipush z, n, a, b, w)) (e : (Int16.ofInt z).toInt32 = Int32.ofInt z) : Pn sc m k (pc + 3) L (.int (Int32.ofInt z) :: S) H r H' := by
  have h := pnA (pc' := pc + 3) (L' := L) (S' := .int (Int16.ofInt z).toInt32 :: S) h hx rfl rfl
  rw [e] at h
  exact h
def cP (c : Jvm.ClassFile.Cond) (x y : Int32) : Prop := match c with
  | .eq => x = y
  | .ne => ¬ x = y
  | .lt => x < y
  | .ge => y ≤ x
  | .gt => y < x
  | .le => x ≤ y
theorem cP_t {c : Jvm.ClassFile.Cond} {x y : Int32} (h : mjC c x y = true) : cP c x y := by
  cases c
  · exact of_decide_eq_true (p := x = y) h
  · exact of_decide_eq_true (p := ¬ x = y) h
  · exact of_decide_eq_true (p := x < y) h
  · exact of_decide_eq_true (p := y ≤ x) h
  · exact of_decide_eq_true (p := y < x) h
  · exact of_decide_eq_true (p := x ≤ y) h
theorem cP_f {c : Jvm.ClassFile.Cond} {x y : Int32} (h : mjC c x y = false) : ¬ cP c x y := by
  cases c
  · exact of_decide_eq_false (p := x = y) h
  · exact of_decide_eq_false (p := ¬ x = y) h
  · exact of_decide_eq_false (p := x < y) h
  · exact of_decide_eq_false (p := y ≤ x) h
  · exact of_decide_eq_false (p := y < x) h
  · exact of_decide_eq_false (p := x ≤ y) h
theorem pnIf1 {c : Jvm.ClassFile.Cond} {off : Int} (h : Pn sc m k pc L (.int y :: S) H r H') (hx : mjAtI k pc = some (.ifCond c off, n, a, b, w)) : (cP c y (Int32.ofInt 0) ∧ Pn sc m k b L S H r H') ∨ (¬ cP c y (Int32.ofInt 0) ∧ Pn sc m k (pc + 3) L S H r H') := by
  rw [show Int32.ofInt 0 = (0 : Int32) by decide]
  have h := pnA (pc' := if mjC c y 0 then b else pc + 3) (L' := L) (S' := S) h hx rfl rfl
  cases e : mjC c y 0 with
  | true =>
    rw [e] at h
    exact Or.inl ⟨cP_t e, h⟩
  | false =>
    rw [e] at h
    exact Or.inr ⟨cP_f e, h⟩
theorem pnIf2 {c : Jvm.ClassFile.Cond} {off : Int} (h : Pn sc m k pc L (.int z :: .int y :: S) H r H') (hx : mjAtI k pc = some (.if_icmp c off, n, a, b, w)) : (cP c y z ∧ Pn sc m k b L S H r H') ∨ (¬ cP c y z ∧ Pn sc m k (pc + 3) L S H r H') := by
  have h := pnA (pc' := if mjC c y z then b else pc + 3) (L' := L) (S' := S) h hx rfl rfl
  cases e : mjC c y z with
  | true =>
    rw [e] at h
    exact Or.inl ⟨cP_t e, h⟩
  | false =>
    rw [e] at h
    exact Or.inr ⟨cP_f e, h⟩
/-- fields -/
theorem pnGI (hT : HT H) (hk : kF i j t false = true) (h : Pn sc m k pc L (.ref i :: S) H r H') (hx : mjAtI k pc = some (.getfield q, n, t, j, w)) : Pn sc m k (pc + 3) L (.int (gI H i j) :: S) H r H' := by
  obtain ⟨p2, s2, h2, e, g⟩ := pnHp h hx rfl rfl
  obtain ⟨vs, e1, -, e3⟩ := hT.fldI hk
  unfold mjHp at e
  dsimp only at e
  rw [e1] at e
  dsimp only at e
  rw [if_pos rfl, e3] at e
  cases e
  exact g
theorem pnGL (hT : HT H) (hk : kF i j t true = true) (h : Pn sc m k pc L (.ref i :: S) H r H') (hx : mjAtI k pc = some (.getfield q, n, t, j, w)) : Pn sc m k (pc + 3) L (.long (gL H i j) :: S) H r H' := by
  obtain ⟨p2, s2, h2, e, g⟩ := pnHp h hx rfl rfl
  obtain ⟨vs, e1, -, e3⟩ := hT.fldL hk
  unfold mjHp at e
  dsimp only at e
  rw [e1] at e
  dsimp only at e
  rw [if_pos rfl, e3] at e
  cases e
  exact g
theorem pnGRs {rs : List Nat} (hT : HT H) (hk : kR i j t rs = true) (h : Pn sc m k pc L (.ref i :: S) H r H') (hx : mjAtI k pc = some (.getfield q, n, t, j, w)) : gR H i j ∈ rs ∧ Pn sc m k (pc + 3) L (.ref (gR H i j) :: S) H r H' := by
  obtain ⟨p2, s2, h2, e, g⟩ := pnHp h hx rfl rfl
  obtain ⟨vs, e1, -, e3, e4⟩ := hT.fldR hk
  unfold mjHp at e
  dsimp only at e
  rw [e1] at e
  dsimp only at e
  rw [if_pos rfl, e3] at e
  cases e
  exact ⟨e4, g⟩
theorem pnGR {o : Nat} (hT : HT H) (hk : kR i j t [o] = true) (h : Pn sc m k pc L (.ref i :: S) H r H') (hx : mjAtI k pc = some (.getfield q, n, t, j, w)) : Pn sc m k (pc + 3) L (.ref o :: S) H r H' := by
  obtain ⟨g1, g2⟩ := pnGRs hT hk h hx
  rw [List.mem_singleton.mp g1] at g2
  exact g2
theorem pnPI (hT : HT H) (hk : kF i j t false = true) (h : Pn sc m k pc L (.int y :: .ref i :: S) H r H') (hx : mjAtI k pc = some (.putfield q, n, t, j, w)) : Pn sc m k (pc + 3) L S (pV H i j (.int y)) r H' := by
  obtain ⟨p2, s2, h2, e, g⟩ := pnHp h hx rfl rfl
  obtain ⟨vs, e1, -, e3⟩ := hT.fldI hk
  unfold mjHp at e
  dsimp only at e
  rw [e1] at e
  dsimp only at e
  split at e
  · cases e
    rw [show pV H i j (.int y) = H.set i (t, vs.set j (.int y)) by unfold pV; rw [e1]]
    exact g
  · cases e
theorem pnPL (hT : HT H) (hk : kF i j t true = true) (h : Pn sc m k pc L (.long u :: .ref i :: S) H r H') (hx : mjAtI k pc = some (.putfield q, n, t, j, w)) : Pn sc m k (pc + 3) L S (pV H i j (.long u)) r H' := by
  obtain ⟨p2, s2, h2, e, g⟩ := pnHp h hx rfl rfl
  obtain ⟨vs, e1, -, e3⟩ := hT.fldL hk
  unfold mjHp at e
  dsimp only at e
  rw [e1] at e
  dsimp only at e
  split at e
  · cases e
    rw [show pV H i j (.long u) = H.set i (t, vs.set j (.long u)) by unfold pV; rw [e1]]
    exact g
  · cases e
theorem pnPR {rs : List Nat} {o : Nat} (hT : HT H) (hk : kR i j t rs = true) (h : Pn sc m k pc L (.ref o :: .ref i :: S) H r H') (hx : mjAtI k pc = some (.putfield q, n, t, j, w)) : Pn sc m k (pc + 3) L S (pV H i j (.ref o)) r H' := by
  obtain ⟨p2, s2, h2, e, g⟩ := pnHp h hx rfl rfl
  obtain ⟨vs, e1, -, e3, -⟩ := hT.fldR hk
  unfold mjHp at e
  dsimp only at e
  rw [e1] at e
  dsimp only at e
  split at e
  · cases e
    rw [show pV H i j (.ref o) = H.set i (t, vs.set j (.ref o)) by unfold pV; rw [e1]]
    exact g
  · cases e
/-- rows -/
theorem pnLen {bb : Bool} (hT : HT H) (hk : kA i t N bb = true) (ho : i ≠ mjScr) (h : Pn sc m k pc L (.ref i :: S) H r H') (hx : mjAtI k pc = some (.arraylength, n, a, b, w)) : Pn sc m k (pc + 1) L (.int (Int32.ofInt (N : Int)) :: S) H r H' := by
  rw [Int32.ofInt_eq_ofNat]
  obtain ⟨p2, s2, h2, e, g⟩ := pnHp h hx rfl rfl
  have hv : ∃ vs, H[i]? = some (t, vs) ∧ vs.length = N := by
    cases bb with
    | false =>
      obtain ⟨vs, e1, e2, -⟩ := hT.arrI hk
      exact ⟨vs, e1, e2⟩
    | true =>
      obtain ⟨vs, e1, e2, -⟩ := hT.arrL hk
      exact ⟨vs, e1, e2⟩
  obtain ⟨vs, e1, e2⟩ := hv
  unfold mjHp at e
  dsimp only at e
  rw [if_neg ho, e1] at e
  dsimp only at e
  split at e
  · cases e
    rw [← e2]
    exact g
  · cases e
theorem pnIl (hT : HT H) (hk : kA i 100 N false = true) (ho : i ≠ mjScr) (h : Pn sc m k pc L (.int y :: .ref i :: S) H r H') (hx : mjAtI k pc = some (.iaload, n, a, b, w)) : (¬ y < 0 ∧ y.toNatClampNeg < N) ∧ Pn sc m k (pc + 1) L (.int (gI H i y.toNatClampNeg) :: S) H r H' := by
  obtain ⟨p2, s2, h2, e, g⟩ := pnHp h hx rfl rfl
  obtain ⟨vs, e1, e2, e3⟩ := hT.arrI hk
  unfold mjHp at e
  dsimp only at e
  rw [if_neg ho, e1] at e
  dsimp only at e
  split at e
  · rename_i hc
    rcases Nat.lt_or_ge y.toNatClampNeg N with hl | hl
    · rw [e3 _ hl] at e
      cases e
      exact ⟨⟨hc.2, hl⟩, g⟩
    · rw [List.getElem?_eq_none (by omega)] at e
      cases e
  · cases e
theorem pnBl (hT : HT H) (hk : kA i t N false = true) (h : Pn sc m k pc L (.int y :: .ref i :: S) H r H') (hx : mjAtI k pc = some (.baload, n, a, b, w)) : (¬ y < 0 ∧ y.toNatClampNeg < N) ∧ Pn sc m k (pc + 1) L (.int (gI H i y.toNatClampNeg) :: S) H r H' := by
  obtain ⟨p2, s2, h2, e, g⟩ := pnHp h hx rfl rfl
  obtain ⟨vs, e1, e2, e3⟩ := hT.arrI hk
  unfold mjHp at e
  dsimp only at e
  rw [e1] at e
  dsimp only at e
  split at e
  · rename_i hc
    rcases Nat.lt_or_ge y.toNatClampNeg N with hl | hl
    · rw [e3 _ hl] at e
      cases e
      exact ⟨⟨hc.2, hl⟩, g⟩
    · rw [List.getElem?_eq_none (by omega)] at e
      cases e
  · cases e
theorem pnLl (hT : HT H) (hk : kA i t N true = true) (h : Pn sc m k pc L (.int y :: .ref i :: S) H r H') (hx : mjAtI k pc = some (.laload, n, a, b, w)) : (¬ y < 0 ∧ y.toNatClampNeg < N) ∧ Pn sc m k (pc + 1) L (.long (gL H i y.toNatClampNeg) :: S) H r H' := by
  obtain ⟨p2, s2, h2, e, g⟩ := pnHp h hx rfl rfl
  obtain ⟨vs, e1, e2, e3⟩ := hT.arrL hk
  unfold mjHp at e
  dsimp only at e
  rw [e1] at e
  dsimp only at e
  split at e
  · rename_i hc
    rcases Nat.lt_or_ge y.toNatClampNeg N with hl | hl
    · rw [e3 _ hl] at e
      cases e
      exact ⟨⟨hc.2, hl⟩, g⟩
    · rw [List.getElem?_eq_none (by omega)] at e
      cases e
  · cases e
theorem pnAl {base : Nat} (hT : HT H) (hk : kRow i t N base = true) (h : Pn sc m k pc L (.int y :: .ref i :: S) H r H') (hx : mjAtI k pc = some (.aaload, n, a, b, w)) : (¬ y < 0 ∧ y.toNatClampNeg < N) ∧ Pn sc m k (pc + 1) L (.ref (base + y.toNatClampNeg) :: S) H r H' := by
  obtain ⟨p2, s2, h2, e, g⟩ := pnHp h hx rfl rfl
  obtain ⟨vs, e1, e2, e3⟩ := hT.row hk
  unfold mjHp at e
  dsimp only at e
  rw [e1] at e
  dsimp only at e
  split at e
  · rename_i hc
    rcases Nat.lt_or_ge y.toNatClampNeg N with hl | hl
    · rw [e3 _ hl] at e
      cases e
      exact ⟨⟨hc.2, hl⟩, g⟩
    · rw [List.getElem?_eq_none (by omega)] at e
      cases e
  · cases e
theorem pnIs (hT : HT H) (hk : kA i t N false = true) (h : Pn sc m k pc L (.int z :: .int y :: .ref i :: S) H r H') (hx : mjAtI k pc = some (.iastore, n, a, b, w)) : (¬ y < 0 ∧ y.toNatClampNeg < N) ∧ Pn sc m k (pc + 1) L S (pV H i y.toNatClampNeg (.int z)) r H' := by
  obtain ⟨p2, s2, h2, e, g⟩ := pnHp h hx rfl rfl
  obtain ⟨vs, e1, e2, e3⟩ := hT.arrI hk
  unfold mjHp at e
  dsimp only at e
  rw [e1] at e
  dsimp only at e
  split at e
  · rename_i hc
    cases e
    rw [show pV H i y.toNatClampNeg (.int z) = H.set i (t, vs.set y.toNatClampNeg (.int z)) by unfold pV; rw [e1]]
    exact ⟨⟨hc.2.1, by rw [← e2]; exact hc.2.2⟩, g⟩
  · cases e
theorem pnLs (hT : HT H) (hk : kA i t N true = true) (h : Pn sc m k pc L (.long u :: .int y :: .ref i :: S) H r H') (hx : mjAtI k pc = some (.lastore, n, a, b, w)) : (¬ y < 0 ∧ y.toNatClampNeg < N) ∧ Pn sc m k (pc + 1) L S (pV H i y.toNatClampNeg (.long u)) r H' := by
  obtain ⟨p2, s2, h2, e, g⟩ := pnHp h hx rfl rfl
  obtain ⟨vs, e1, e2, e3⟩ := hT.arrL hk
  unfold mjHp at e
  dsimp only at e
  rw [e1] at e
  dsimp only at e
  split at e
  · rename_i hc
    cases e
    rw [show pV H i y.toNatClampNeg (.long u) = H.set i (t, vs.set y.toNatClampNeg (.long u)) by unfold pV; rw [e1]]
    exact ⟨⟨hc.2.1, by rw [← e2]; exact hc.2.2⟩, g⟩
  · cases e
/-- a boolean's row -/
theorem pnBs (hT : HT H) (hk : kA i 103 N false = true) (h : Pn sc m k pc L (.int z :: .int y :: .ref i :: S) H r H') (hx : mjAtI k pc = some (.bastore, n, a, b, w)) : (¬ y < 0 ∧ y.toNatClampNeg < N) ∧ Pn sc m k (pc + 1) L S (pV H i y.toNatClampNeg (.int (z &&& 1))) r H' := by
  obtain ⟨p2, s2, h2, e, g⟩ := pnHp h hx rfl rfl
  obtain ⟨vs, e1, e2, e3⟩ := hT.arrI hk
  unfold mjHp at e
  dsimp only at e
  rw [e1] at e
  dsimp only at e
  rw [if_neg (fun q => absurd q.1 (by decide))] at e
  split at e
  · rename_i hc
    cases e
    rw [show pV H i y.toNatClampNeg (.int (z &&& 1)) = H.set i (103, vs.set y.toNatClampNeg (.int (z &&& 1))) by unfold pV; rw [e1]]
    exact ⟨⟨hc.2.1, by rw [← e2]; exact hc.2.2⟩, g⟩
  · cases e
/-- constants of the class -/
theorem pnLd (h : Pn sc m k pc L S H r H') (hx : mjAtI k pc = some (.ldc q, n, a, 0, w)) {z : Int} (ez : Int32.ofNat a = Int32.ofInt z) : Pn sc m k (pc + 2) L (.int (Int32.ofInt z) :: S) H r H' := by
  rw [← ez]
  obtain ⟨p2, s2, h2, e, g⟩ := pnHp h hx rfl rfl
  cases (show some (pc + 2, .int (Int32.ofNat a) :: S, H) = some (p2, s2, h2) from e)
  exact g
theorem pnLd2 (h : Pn sc m k pc L S H r H') (hx : mjAtI k pc = some (.ldc2_w q, n, a, b, w)) : Pn sc m k (pc + 3) L (.long (Int64.ofNat a) :: S) H r H' := by
  obtain ⟨p2, s2, h2, e, g⟩ := pnHp h hx rfl rfl
  cases (show some (pc + 3, .long (Int64.ofNat a) :: S, H) = some (p2, s2, h2) from e)
  exact g
/-- ends -/
theorem pnRi (h : Pn sc m k pc L [.int y] H r H') (hx : mjAtI k pc = some (.ireturn, n, a, b, w)) : r = .inl (some (.int y)) ∧ H' = H := by
  obtain ⟨f, d, c, s, hf, h⟩ := pn_go h.su
  unfold mjStep at h
  rw [hx] at h
  dsimp only at h
  split at h
  · cases h
  · split at h
    · rename_i o ho
      cases h
      unfold mjRv at ho
      dsimp only at ho
      split at ho
      · split at ho
        · cases ho
          exact ⟨rfl, rfl⟩
        · cases ho
      · cases ho
    · cases h
theorem pnRl (h : Pn sc m k pc L [.long u] H r H') (hx : mjAtI k pc = some (.lreturn, n, a, b, w)) : r = .inl (some (.long u)) ∧ H' = H := by
  obtain ⟨f, d, c, s, hf, h⟩ := pn_go h.su
  unfold mjStep at h
  rw [hx] at h
  dsimp only at h
  split at h
  · cases h
  · split at h
    · rename_i o ho
      cases h
      unfold mjRv at ho
      dsimp only at ho
      split at ho
      · cases ho
        exact ⟨rfl, rfl⟩
      · cases ho
    · cases h
theorem pnRv (h : Pn sc m k pc L [] H r H') (hx : mjAtI k pc = some (.return_, n, a, b, w)) : r = .inl none ∧ H' = H := by
  obtain ⟨f, d, c, s, hf, h⟩ := pn_go h.su
  unfold mjStep at h
  rw [hx] at h
  dsimp only at h
  split at h
  · cases h
  · split at h
    · rename_i o ho
      cases h
      unfold mjRv at ho
      dsimp only at ho
      split at ho
      · cases ho
        exact ⟨rfl, rfl⟩
      · cases ho
    · cases h
theorem pnRr {o : Nat} (h : Pn sc m k pc L [.ref o] H r H') (hx : mjAtI k pc = some (.areturn, n, a, b, w)) : r = .inl (some (.ref o)) ∧ H' = H := by
  obtain ⟨f, d, c, s, hf, h⟩ := pn_go h.su
  unfold mjStep at h
  rw [hx] at h
  dsimp only at h
  split at h
  · cases h
  · split at h
    · rename_i o ho
      cases h
      unfold mjRv at ho
      dsimp only at ho
      split at ho
      · cases ho
        exact ⟨rfl, rfl⟩
      · cases ho
    · cases h
/-- calls -/
noncomputable def kCall (i : Instr) (a k : Nat) : Bool := (match i with
  | .invokevirtual _ => !(Nat.beq a 900 || Nat.beq a 901)
  | .invokestatic _ => !(Nat.beq a 902 || Nat.beq a 903)
  | .invokespecial _ => !Nat.beq a 998
  | _ => false) && (match mjM k with | some (_, _, _, _, hh, _, _) => (match hh with | [] => true | _ => false) | none => false)
/-- how many of the stack a call takes -/
noncomputable def kArg (a : Nat) : Nat := match mjM a with
  | some (_, _, _, _, _, np, stt) => if stt then np else np + 1
  | none => 0
theorem pnCall {x : Instr} {as rest : List Value} {g : Nat} (h : Pn sc (m + 1) k pc L S H r H') (hx : mjAtI k pc = some (x, n, a, b, w)) (hk : kCall x a k = true) (hg : kArg a = g) (ha : mjArgs g S = some (as, rest)) : ∃ r2 H2, Pn none m a 0 (lv_args 0 as) [] H r2 H2 ∧ ((∃ v, r2 = .inl v ∧ Pn sc m k (pc + 3) L (v.toList ++ rest) H2 r H') ∨ (∃ E, r2 = .inr E ∧ r = .inr E ∧ H' = H2)) := by
  obtain ⟨f, d, c, s, hf, h⟩ := pn_go h
  unfold kCall at hk
  rw [Bool.and_eq_true] at hk
  obtain ⟨hk1, hk2⟩ := hk
  unfold mjStep at h
  rw [hx] at h
  dsimp only at h
  split at h
  · cases h
  rename_i y1 nL ret own hh np stt hM
  rw [hM] at hk2
  have hh0 : hh = [] := by
    cases hh with
    | nil => rfl
    | cons _ _ => cases hk2
  subst hh0
  have h2 : mjCall (mjEx f) sc d k pc (x, n, a, b, w) [] L S H = some (r, H', c, s) := by
    cases x
    case invokespecial q =>
      dsimp only at h hk1
      split at h
      · rename_i e
        subst e
        exact absurd hk1 (by decide)
      · exact h
    case invokestatic q =>
      dsimp only at h hk1
      split at h
      · rename_i e
        subst e
        exact absurd hk1 (by decide)
      · split at h
        · rename_i e
          subst e
          exact absurd hk1 (by decide)
        · exact h
    case invokevirtual q =>
      dsimp only at h hk1
      split at h
      · rename_i e
        exfalso
        rcases e with e | e <;> (subst e; exact absurd hk1 (by decide))
      · exact h
    all_goals cases hk1
  clear h
  unfold mjCall at h2
  split at h2
  · cases h2
  rename_i y2 nL2 ret2 own2 hh2 np2 stt2 hM2
  have hM2 : mjM a = some (y2, nL2, ret2, own2, hh2, np2, stt2) := hM2
  have eg : kArg a = if stt2 then np2 else np2 + 1 := by
    unfold kArg
    rw [hM2]
  rw [← eg, hg, ha] at h2
  dsimp only at h2
  cases d with
  | zero => cases h2
  | succ d =>
    dsimp only at h2
    split at h2
    · split at h2
      · cases h2
      · rename_i r2 hr2
        split at h2
        · obtain ⟨r1, h1, c1, s1⟩ := r2
          refine ⟨r1, h1, ⟨f, d, c1, s1, hf, hr2⟩, ?_⟩
          cases r1 with
          | inl v =>
            refine Or.inl ⟨v, rfl, ?_⟩
            obtain ⟨c2, s2, e2, -, -⟩ := mj_add h2
            exact ⟨f, d + 1, c2, s2, hf, e2⟩
          | inr E =>
            refine Or.inr ⟨E, rfl, ?_⟩
            cases h2
            exact ⟨rfl, rfl⟩
        · cases h2
    · cases h2
theorem pnC {x : Instr} {as rest : List Value} {g : Nat} (h : Pn sc m k pc L S H r H') (hx : mjAtI k pc = some (x, n, a, b, w)) (hk : kCall x a k = true) (hg : kArg a = g) (ha : mjArgs g S = some (as, rest)) : ∃ r2 H2, Pn none m a 0 (lv_args 0 as) [] H r2 H2 ∧ ((∃ v, r2 = .inl v ∧ Pn sc m k (pc + 3) L (v.toList ++ rest) H2 r H') ∨ (∃ E, r2 = .inr E ∧ r = .inr E ∧ H' = H2)) := pnCall h.su hx hk hg ha
theorem pn_ret {v : Option Value} {H2 : mjH} {rest : List Value} (h : (∃ v', (Sum.inl v : Option Value ⊕ Nat) = .inl v' ∧ Pn sc m k pc L (v'.toList ++ rest) H2 r H') ∨ (∃ E, (Sum.inl v : Option Value ⊕ Nat) = .inr E ∧ r = .inr E ∧ H' = H2)) : Pn sc m k pc L (v.toList ++ rest) H2 r H' := by
  rcases h with ⟨v', e, h⟩ | ⟨E, e, -⟩
  · cases e
    exact h
  · cases e
theorem pnMax {q : Nat} (h : Pn sc m k pc L (.int z :: .int y :: S) H r H') (hx : mjAtI k pc = some (.invokestatic q, n, 902, b, w)) : Pn sc m k (pc + 3) L (.int (if y < z then z else y) :: S) H r H' := by
  obtain ⟨f, d, c, s, hf, h⟩ := pn_go h.su
  unfold mjStep at h
  rw [hx] at h
  dsimp only at h
  split at h
  · cases h
  · rw [if_pos rfl] at h
    split at h
    · exact ⟨f, d, c, s, hf, h⟩
    · cases h
theorem pnMin {q : Nat} (h : Pn sc m k pc L (.int z :: .int y :: S) H r H') (hx : mjAtI k pc = some (.invokestatic q, n, 903, b, w)) : Pn sc m k (pc + 3) L (.int (if z < y then z else y) :: S) H r H' := by
  obtain ⟨f, d, c, s, hf, h⟩ := pn_go h.su
  unfold mjStep at h
  rw [hx] at h
  dsimp only at h
  split at h
  · cases h
  · rw [if_neg (by decide), if_pos rfl] at h
    split at h
    · exact ⟨f, d, c, s, hf, h⟩
    · cases h
end PCSTEP
/-! PC: locals by their places -/
section PCLOC
def LG (L : mjL) : List (Nat × Value) → Prop
  | [] => True
  | q :: r => mjGet L q.1 = some q.2 ∧ LG L r
theorem gt_eq {L : mjL} {i : Nat} {v : Value} : mjGet (mjSt i v L) i = some v := by
  unfold mjSt mjGet
  rw [if_pos (beq_self_eq_true i)]
theorem gt_eq2 {L : mjL} {i : Nat} {v : Value} : mjGet (mjSt2 i v L) i = some v := by
  unfold mjSt2 mjGet
  rw [if_pos (beq_self_eq_true i)]
theorem gt_fi {p : Nat × Value → Bool} {j : Nat} {u : Value} (hp : p (j, u) = true) : ∀ {L : mjL}, mjGet L j = some u → mjGet (L.filter p) j = some u
  | [], h => by cases h
  | q :: r, h => by
    unfold mjGet at h
    by_cases hq : q.1 = j
    · rw [if_pos (by simp [hq])] at h
      cases h
      subst hq
      rw [List.filter_cons, if_pos hp]
      unfold mjGet
      rw [if_pos (beq_self_eq_true q.1)]
    · rw [if_neg (by simp [hq])] at h
      have ih := gt_fi hp h
      rw [List.filter_cons]
      split
      · unfold mjGet
        rw [if_neg (by simp [hq])]
        exact ih
      · exact ih
theorem gt_ne {L : mjL} {i j : Nat} {v u : Value} (h : mjGet L j = some u) (h1 : j ≠ i) (h2 : (decide (j + 1 = i) && decide (u.category = 2)) = false) : mjGet (mjSt i v L) j = some u := by
  unfold mjSt mjGet
  dsimp only
  rw [if_neg (by simp [Ne.symm h1])]
  refine gt_fi ?_ h
  dsimp only
  have e1 : (j == i) = false := beq_eq_false_iff_ne.mpr h1
  have e2 : (j + 1 == i && u.category == 2) = false := h2
  rw [e1, e2]
  rfl
theorem gt_ne2 {L : mjL} {i j : Nat} {v u : Value} (h : mjGet L j = some u) (h1 : j ≠ i) (h3 : j ≠ i + 1) (h2 : (decide (j + 1 = i) && decide (u.category = 2)) = false) : mjGet (mjSt2 i v L) j = some u := by
  unfold mjSt2 mjGet
  dsimp only
  rw [if_neg (by simp [Ne.symm h1])]
  refine gt_fi ?_ h
  dsimp only
  have e1 : (j == i) = false := beq_eq_false_iff_ne.mpr h1
  have e3 : (j == i + 1) = false := beq_eq_false_iff_ne.mpr h3
  have e2 : (j + 1 == i && u.category == 2) = false := h2
  rw [e1, e3, e2]
  rfl
variable {sc : Option (List Int32)} {m k pc : Nat} {L : mjL} {S : List Value} {H H' : mjH} {r : Option Value ⊕ Nat} {n a b w i : Nat} {y z : Int32} {u v : Int64} {o : Nat}
theorem ali (g : mjGet L i = some (.int y)) : mjAlu (.iload i) pc b L S = some (pc + 2, L, .int y :: S) := by
  unfold mjAlu
  dsimp only
  rw [g]
theorem pnLi (g : mjGet L i = some (.int y)) (h : Pn sc m k pc L S H r H') (hx : mjAtI k pc = some (.iload i, n, a, b, w)) : Pn sc m k (pc + 2) L (.int y :: S) H r H' := pnA h hx (ali g) rfl
theorem pnSi_ (g : mjGet L i = some (.int y)) (h : Pn sc (m + 1) k pc L S H r H') (hx : mjAtI k pc = some (.iload i, n, a, b, w)) : Pn sc m k (pc + 2) L (.int y :: S) H r H' := pnAlu h hx (ali g) rfl
theorem alin {i : Fin 4} (g : mjGet L (i : Nat) = some (.int y)) : mjAlu (.iload_n i) pc b L S = some (pc + 1, L, .int y :: S) := by
  unfold mjAlu
  dsimp only
  rw [g]
theorem pnLin {i : Fin 4} (g : mjGet L (i : Nat) = some (.int y)) (h : Pn sc m k pc L S H r H') (hx : mjAtI k pc = some (.iload_n i, n, a, b, w)) : Pn sc m k (pc + 1) L (.int y :: S) H r H' := pnA h hx (alin g) rfl
theorem pnSin {i : Fin 4} (g : mjGet L (i : Nat) = some (.int y)) (h : Pn sc (m + 1) k pc L S H r H') (hx : mjAtI k pc = some (.iload_n i, n, a, b, w)) : Pn sc m k (pc + 1) L (.int y :: S) H r H' := pnAlu h hx (alin g) rfl
theorem alj (g : mjGet L i = some (.long u)) : mjAlu (.lload i) pc b L S = some (pc + 2, L, .long u :: S) := by
  unfold mjAlu
  dsimp only
  rw [g]
theorem pnLj (g : mjGet L i = some (.long u)) (h : Pn sc m k pc L S H r H') (hx : mjAtI k pc = some (.lload i, n, a, b, w)) : Pn sc m k (pc + 2) L (.long u :: S) H r H' := pnA h hx (alj g) rfl
theorem pnSj (g : mjGet L i = some (.long u)) (h : Pn sc (m + 1) k pc L S H r H') (hx : mjAtI k pc = some (.lload i, n, a, b, w)) : Pn sc m k (pc + 2) L (.long u :: S) H r H' := pnAlu h hx (alj g) rfl
theorem aljn {i : Fin 4} (g : mjGet L (i : Nat) = some (.long u)) : mjAlu (.lload_n i) pc b L S = some (pc + 1, L, .long u :: S) := by
  unfold mjAlu
  dsimp only
  rw [g]
theorem pnLjn {i : Fin 4} (g : mjGet L (i : Nat) = some (.long u)) (h : Pn sc m k pc L S H r H') (hx : mjAtI k pc = some (.lload_n i, n, a, b, w)) : Pn sc m k (pc + 1) L (.long u :: S) H r H' := pnA h hx (aljn g) rfl
theorem pnSjn {i : Fin 4} (g : mjGet L (i : Nat) = some (.long u)) (h : Pn sc (m + 1) k pc L S H r H') (hx : mjAtI k pc = some (.lload_n i, n, a, b, w)) : Pn sc m k (pc + 1) L (.long u :: S) H r H' := pnAlu h hx (aljn g) rfl
theorem alr (g : mjGet L i = some (.ref o)) : mjAlu (.aload i) pc b L S = some (pc + 2, L, .ref o :: S) := by
  unfold mjAlu
  dsimp only
  rw [g]
theorem pnLr (g : mjGet L i = some (.ref o)) (h : Pn sc m k pc L S H r H') (hx : mjAtI k pc = some (.aload i, n, a, b, w)) : Pn sc m k (pc + 2) L (.ref o :: S) H r H' := pnA h hx (alr g) rfl
theorem pnSr (g : mjGet L i = some (.ref o)) (h : Pn sc (m + 1) k pc L S H r H') (hx : mjAtI k pc = some (.aload i, n, a, b, w)) : Pn sc m k (pc + 2) L (.ref o :: S) H r H' := pnAlu h hx (alr g) rfl
theorem alrn {i : Fin 4} (g : mjGet L (i : Nat) = some (.ref o)) : mjAlu (.aload_n i) pc b L S = some (pc + 1, L, .ref o :: S) := by
  unfold mjAlu
  dsimp only
  rw [g]
theorem pnLrn {i : Fin 4} (g : mjGet L (i : Nat) = some (.ref o)) (h : Pn sc m k pc L S H r H') (hx : mjAtI k pc = some (.aload_n i, n, a, b, w)) : Pn sc m k (pc + 1) L (.ref o :: S) H r H' := pnA h hx (alrn g) rfl
theorem pnSrn {i : Fin 4} (g : mjGet L (i : Nat) = some (.ref o)) (h : Pn sc (m + 1) k pc L S H r H') (hx : mjAtI k pc = some (.aload_n i, n, a, b, w)) : Pn sc m k (pc + 1) L (.ref o :: S) H r H' := pnAlu h hx (alrn g) rfl
theorem alInc {c : Int} (g : mjGet L i = some (.int y)) : mjAlu (.iinc i c) pc b L S = some (pc + 3, mjSt i (.int (y + Int32.ofInt c)) L, S) := by
  unfold mjAlu
  dsimp only
  rw [g]
theorem pnInc {c : Int} (g : mjGet L i = some (.int y)) (h : Pn sc m k pc L S H r H') (hx : mjAtI k pc = some (.iinc i c, n, a, b, w)) : Pn sc m k (pc + 3) (mjSt i (.int (y + Int32.ofInt c)) L) S H r H' := pnA h hx (alInc g) rfl
/-- a ref that is known -/
theorem pnGRe {rs : List Nat} {q j t : Nat} {i : Nat} (hj : gR H i j = o) (hT : HT H) (hk : kR i j t rs = true) (h : Pn sc m k pc L (.ref i :: S) H r H') (hx : mjAtI k pc = some (.getfield q, n, t, j, w)) : Pn sc m k (pc + 3) L (.ref o :: S) H r H' := by
  have g := (pnGRs hT hk h hx).2
  rw [hj] at g
  exact g
/-- a switch -/
theorem pnTs {dflt lo hi : Int} {offs : Array Int} (h : Pn sc m k pc L (.int y :: S) H r H') (hx : mjAtI k pc = some (.tableswitch dflt lo hi offs, n, a, b, w)) : ((y.toInt < lo ∨ hi < y.toInt) ∧ Pn sc m k ((pc : Int) + dflt).toNat L S H r H') ∨ ∃ o, ¬ (y.toInt < lo ∨ hi < y.toInt) ∧ offs[(y.toInt - lo).toNat]? = some o ∧ Pn sc m k ((pc : Int) + o).toNat L S H r H' := by
  have main : ∃ p, mjAlu (.tableswitch dflt lo hi offs) pc b L (.int y :: S) = some (p, L, S) ∧ (((y.toInt < lo ∨ hi < y.toInt) ∧ p = ((pc : Int) + dflt).toNat) ∨ ∃ o, ¬ (y.toInt < lo ∨ hi < y.toInt) ∧ offs[(y.toInt - lo).toNat]? = some o ∧ p = ((pc : Int) + o).toNat) := by
    obtain ⟨f, d, c, s, hf, h⟩ := pn_pl hx rfl h.su
    unfold mjAlu
    dsimp only at h ⊢
    unfold mjAlu at h
    dsimp only at h
    by_cases hc : y.toInt < lo ∨ hi < y.toInt
    · rw [if_pos hc] at h ⊢
      by_cases he : ((((pc : Int) + dflt).toNat : Nat) : Int) = (pc : Int) + dflt
      · rw [if_pos he]
        exact ⟨_, rfl, Or.inl ⟨hc, rfl⟩⟩
      · rw [if_neg he] at h
        cases h
    · rw [if_neg hc] at h ⊢
      cases ho : offs[(y.toInt - lo).toNat]? with
      | none =>
        rw [ho] at h
        cases h
      | some o =>
        rw [ho] at h
        dsimp only at h ⊢
        by_cases he : ((((pc : Int) + o).toNat : Nat) : Int) = (pc : Int) + o
        · rw [if_pos he]
          exact ⟨_, rfl, Or.inr ⟨o, hc, rfl, rfl⟩⟩
        · rw [if_neg he] at h
          cases h
  obtain ⟨p, e, hp⟩ := main
  have h := pnA h hx e rfl
  rcases hp with ⟨c1, rfl⟩ | ⟨o, c1, c2, rfl⟩
  · exact Or.inl ⟨c1, h⟩
  · exact Or.inr ⟨o, c1, c2, h⟩
end PCLOC

/-! SX: rules of facts: what follows of what is known of a text -/
noncomputable section SXRUL
variable {T : Nat} {σ : List Int} {B : sxB} {x y t : sxN} {X Y Z : Int}
theorem sxNR.c0 (hB : sxBR T σ B) (c : Int) : sxNR σ (0, c) c := ⟨0, hB.1.2, by simp⟩
theorem sxNR.off (h : sxNR σ x X) (c : Int) : sxNR σ (x.1, x.2 + c) (X + c) := by
  obtain ⟨y, h1, h2⟩ := h
  exact ⟨y, h1, by dsimp only; omega⟩
def sxOf (x : sxN) (c : Int) : sxN := iFc (x.2 + c) fun k => (x.1, k)
theorem sxOf_ok (h : sxNR σ x X) (c : Int) : sxNR σ (sxOf x c) (X + c) := by
  unfold sxOf
  rw [iFc_eq]
  exact h.off c
/-- there is no such way -/
def sxMkBad (B : sxB) : sxB := (B.1, (1, 1, 0) :: B.2.1, B.2.2)
/-- from now on the same -/
def sxEqX (B : sxB) (x y : sxN) : sxB := match Nat.beq x.1 y.1 with
  | true => (match iEq x.2 y.2 with | true => B | false => sxMkBad B)
  | false => match sxLe B x y (-1) with
    | true => sxMkBad B
    | false => match sxLe B y x (-1) with
    | true => sxMkBad B
    | false => match sxLe B x y 0 with
    | true => (match sxLe B y x 0 with | true => B | false => sxAsm B y x 0)
    | false => match sxLe B y x 0 with
      | true => sxAsm B x y 0
      | false => sxAsm (sxAsm B x y 0) y x 0
theorem sxEqX_ok (hB : sxBR T σ B) (hx : sxNR σ x X) (hy : sxNR σ y X) : sxBR T σ (sxEqX B x y) := by
  unfold sxEqX
  split
  · rename_i e
    split
    · exact hB
    · rename_i e2
      exfalso
      obtain ⟨a, h1, h2⟩ := hx
      obtain ⟨b, h3, h4⟩ := hy
      rw [Nat.eq_of_beq_eq_true e] at h1
      cases Option.some.inj (h1.symm.trans h3)
      have : x.2 = y.2 := by omega
      rw [this, iEq_self] at e2
      cases e2
  · split
    · rename_i e1
      have := sxLe_ok hB e1 hx hy
      omega
    · split
      · rename_i e1
        have := sxLe_ok hB e1 hy hx
        omega
      · split
        · split
          · exact hB
          · exact sxAsm_ok hB hy hx (by omega)
        · split
          · exact sxAsm_ok hB hx hy (by omega)
          · exact sxAsm_ok (sxAsm_ok hB hx hy (by omega)) hy hx (by omega)
/-- from now on x - y ≤ c -/
def sxLeX (B : sxB) (x y : sxN) (c : Int) : sxB := match Nat.beq x.1 y.1 with
  | true => (match iLe (x.2 - y.2) c with | true => B | false => sxMkBad B)
  | false => match sxLe B x y c with
    | true => B
    | false => match sxLe B y x (-c - 1) with
      | true => sxMkBad B
      | false => sxAsm B x y c
theorem sxLeX_ok {c : Int} (hB : sxBR T σ B) (hx : sxNR σ x X) (hy : sxNR σ y Y) (h : X - Y ≤ c) : sxBR T σ (sxLeX B x y c) := by
  unfold sxLeX
  split
  · rename_i e
    split
    · exact hB
    · rename_i e2
      exfalso
      have e2 := iLe_no e2
      obtain ⟨a, h1, h2⟩ := hx
      obtain ⟨b, h3, h4⟩ := hy
      rw [Nat.eq_of_beq_eq_true e] at h1
      cases Option.some.inj (h1.symm.trans h3)
      omega
  · split
    · exact hB
    · split
      · rename_i e1
        have := sxLe_ok hB e1 hy hx
        omega
      · exact sxAsm_ok hB hx hy h
/-- does just this fact stand there? -/
def sxHasS (B : sxB) (o : Nat) (x y z : sxN) (l_ : sxF) : Bool := @List.rec _ (fun _ => Bool) (false) (fun q _ ih => match Nat.beq q.1 o with
    | true => (match sxSame q.2.2.2 z with
      | true => (match sxSame (sxNm B q.2.1) x with
        | true => (match sxSame (sxNm B q.2.2.1) y with | true => true | false => ih)
        | false => ih)
      | false => ih)
    | false => ih) l_
theorem sxHasS_c {B : sxB} {o : Nat} {x y z : sxN} {q : Nat × sxN × sxN × sxN} {r : sxF} : sxHasS B o x y z (q :: r) = (match Nat.beq q.1 o with
    | true => (match sxSame q.2.2.2 z with
      | true => (match sxSame (sxNm B q.2.1) x with
        | true => (match sxSame (sxNm B q.2.2.1) y with | true => true | false => sxHasS B o x y z r)
        | false => sxHasS B o x y z r)
      | false => sxHasS B o x y z r)
    | false => sxHasS B o x y z r) := rfl
/-- a fact that follows -/
def sxPut (B : sxB) (o : Nat) (a b t : sxN) : sxB := bFc o fun o => nFc a fun a => nFc b fun b => nFc t fun t => nFc (sxNm B a) fun a1 => nFc (sxNm B b) fun b1 => match sxHasS B o a1 b1 t (sxFo B.2.2.2.2 o) with
  | true => B
  | false => match sxFl B B.2.2.2.2 o a1 b1 with
    | some z => (match sxEqv B z (sxNm B t) with | true => sxFa B o a b t | false => sxFa (sxEqX B z t) o a b t)
    | none => sxFa B o a b t
theorem sxPut_ok {o : Nat} {a b : sxN} {A C : Int} (hB : sxBR T σ B) (ha : sxNR σ a A) (hb : sxNR σ b C) (ht : sxNR σ t (sxSem T o A C)) : sxBR T σ (sxPut B o a b t) := by
  unfold sxPut
  rw [bFc_eq, nFc_eq, nFc_eq, nFc_eq, nFc_eq, nFc_eq]
  split
  · exact hB
  split
  · rename_i z hz
    split
    · exact sxFa_ok hB ha hb ht
    · exact sxFa_ok (sxEqX_ok hB (sxFl_ok hB hz hB.2.2.2.2 (sxNm_ok hB ha) (sxNm_ok hB hb)) ht) ha hb ht
  · exact sxFa_ok hB ha hb ht
def sxG1 (B : sxB) (o : Nat) (a : sxN) : Option sxN := sxFl B B.2.2.2.2 o (sxNm B a) (0, 0)
theorem sxG1_ok {o : Nat} {a : sxN} {A : Int} (hB : sxBR T σ B) (h : sxG1 B o a = some t) (ha : sxNR σ a A) : sxNR σ t (sxSem T o A 0) := sxFl_ok hB h hB.2.2.2.2 (sxNm_ok hB ha) (sxNR.c0 hB 0)
/-- a place of the text -/
def sxInP (B : sxB) (a : sxN) : Bool := match sxRg B a with
  | some r => (match iLe 0 r.1 with | true => iLe r.2 600 | false => false)
  | none => false
theorem sxInP_ok {a : sxN} {A : Int} (hB : sxBR T σ B) (h : sxInP B a = true) (ha : sxNR σ a A) : 0 ≤ A ∧ A ≤ 600 := by
  unfold sxInP at h
  split at h
  · rename_i r hr
    have h1 := sxRg_ok hB hr ha
    split at h
    · rename_i e
      have e := iLe_ok e
      have h := iLe_ok h
      omega
    · cases h
  · cases h
/-- in bounds, out of bounds -/
def sxBtw (B : sxB) (b : sxN) (lo hi : Int) : Bool := match sxRg B b with
  | some r => (match iLe lo r.1 with | true => iLe r.2 hi | false => false)
  | none => false
def sxNot (B : sxB) (b : sxN) (lo hi : Int) : Bool := match sxRg B b with
  | some r => (match iLe lo r.2 with | false => true | true => match iLe r.1 hi with | false => true | true => false)
  | none => false
theorem sxBtw_ok {lo hi : Int} (hB : sxBR T σ B) (h : sxBtw B x lo hi = true) (hx : sxNR σ x X) : lo ≤ X ∧ X ≤ hi := by
  unfold sxBtw at h
  split at h
  · rename_i r hr
    have h1 := sxRg_ok hB hr hx
    split at h
    · rename_i e
      have e := iLe_ok e
      have h := iLe_ok h
      omega
    · cases h
  · cases h
theorem sxNot_ok {lo hi : Int} (hB : sxBR T σ B) (h : sxNot B x lo hi = true) (hx : sxNR σ x X) : X < lo ∨ hi < X := by
  unfold sxNot at h
  split at h
  · rename_i r hr
    have h1 := sxRg_ok hB hr hx
    split at h
    · rename_i e
      have e := iLe_no e
      omega
    · split at h
      · rename_i e
        have e := iLe_no e
        omega
      · cases h
  · cases h
/-- runs: of blanks, of letters, of digits -/
def tFn (T : Nat) (o : Nat) (p : Int) : Bool := match o with
  | 42 => tBk T p
  | 43 => tLt T p
  | _ => tDg T p
def tLo (o : Nat) : Int × Int := match o with
  | 42 => (32, 32)
  | 43 => (97, 122)
  | _ => (48, 57)
theorem tFn_own (T o : Nat) : tOwn T (tFn T o) := by
  unfold tFn
  split
  · exact tOwn_bk T
  · exact tOwn_lt T
  · exact tOwn_dg T
theorem tFn_iff {o : Nat} {p : Int} : tFn T o p = true ↔ (tLo o).1 ≤ tBy T p ∧ tBy T p ≤ (tLo o).2 := by
  unfold tFn tLo
  split
  · rw [tBk, decide_eq_true_eq]
    omega
  · simp only [tLt, Bool.and_eq_true, decide_eq_true_eq]
  · simp only [tDg, Bool.and_eq_true, decide_eq_true_eq]
def isRn (o : Nat) : Bool := match o with
  | 42 => true
  | 43 => true
  | 44 => true
  | _ => false
theorem sem_rn {o : Nat} {p b : Int} (h : isRn o = true) : sxSem T o p b = tIn p (tRun (tFn T o) 601 p) := by
  unfold isRn at h
  split at h <;> first | rfl | cases h
theorem by_in {p : Int} (h : 0 ≤ tBy T p) : 0 ≤ p ∧ p < tLn T := by
  unfold tBy at h
  split at h
  · assumption
  · omega
theorem tIn_eq {p z : Int} (h0 : 0 ≤ p) (h1 : p ≤ 600) : tIn p z = z := by
  unfold tIn
  rw [if_pos ⟨h0, h1⟩]
theorem rn_step {o : Nat} {p b c : Int} (h : isRn o = true) (hf : tFn T o p = true) : sxSem T o (p + 1) c = sxSem T o p b := by
  have h1 := tFn_own T o p hf
  have h2 := tFn_iff.mp hf
  have h3 : 0 ≤ tBy T p := by
    have : 0 ≤ (tLo o).1 := by unfold tLo; split <;> decide
    omega
  have h4 := by_in h3
  have h5 := tLn_le T
  rw [sem_rn h, sem_rn h, tIn_eq (by omega) (by omega), tIn_eq (by omega) (by omega)]
  exact (tRun_st (tFn_own T o) h4.1 hf).symm
theorem rn_stop {o : Nat} {p b : Int} (h : isRn o = true) (h0 : 0 ≤ p) (h1 : p ≤ 600) (hf : tFn T o p = false) : sxSem T o p b = p := by
  rw [sem_rn h, tIn_eq h0 h1, tRun_no hf]
theorem rn_ge {o : Nat} {p b : Int} (h : isRn o = true) (h0 : 0 ≤ p) (h1 : p ≤ 600) : p ≤ sxSem T o p b := by
  rw [sem_rn h, tIn_eq h0 h1]
  exact tRun_ge
theorem rn_le {o : Nat} {p b : Int} (h : isRn o = true) (h0 : 0 ≤ p) (h1 : p ≤ tLn T) : sxSem T o p b ≤ tLn T := by
  have h5 := tLn_le T
  rw [sem_rn h, tIn_eq h0 (by omega)]
  exact tRun_le (tFn_own T o) h1
theorem rn_idem {o : Nat} {p b c : Int} (h : isRn o = true) (h0 : 0 ≤ p) (h1 : p ≤ 600) : sxSem T o (sxSem T o p b) c = sxSem T o p b := by
  have h5 := tLn_le T
  have h6 := tRun_rg (tFn_own T o) h0 h1
  have he : sxSem T o p b = tRun (tFn T o) 601 p := by rw [sem_rn h, tIn_eq h0 h1]
  rw [he]
  exact rn_stop h h6.1 h6.2 (tRun_end (tFn_own T o) (by omega))
/-- known not to be this number -/
def sxNeq (B : sxB) (b : sxN) (c : Int) (l_ : sxF) : Bool := @List.rec _ (fun _ => Bool) (false) (fun q _ ih => match Nat.beq q.1 21 with
    | false => ih
    | true => match sxSame (sxNm B q.2.2.1) (0, c) with
      | false => ih
      | true => match sxSame (sxNm B q.2.2.2) (0, 1) with
        | false => ih
        | true => match sxEqv B q.2.1 (sxNm B b) with
          | true => true
          | false => ih) l_
theorem sxNeq_c {B : sxB} {b : sxN} {c : Int} {q : Nat × sxN × sxN × sxN} {r : sxF} : sxNeq B b c (q :: r) = (match Nat.beq q.1 21 with
    | false => sxNeq B b c r
    | true => match sxSame (sxNm B q.2.2.1) (0, c) with
      | false => sxNeq B b c r
      | true => match sxSame (sxNm B q.2.2.2) (0, 1) with
        | false => sxNeq B b c r
        | true => match sxEqv B q.2.1 (sxNm B b) with
          | true => true
          | false => sxNeq B b c r) := rfl
theorem sxNeq_ok {c : Int} (hB : sxBR T σ B) (hx : sxNR σ x X) : ∀ {F : sxF}, sxNeq B x c F = true → (∀ q ∈ F, sxFt T σ q) → X ≠ c
  | [], h, _ => by cases h
  | q :: r, h, hF => by
    have hr : ∀ q ∈ r, sxFt T σ q := fun q hq => hF q (List.mem_cons_of_mem _ hq)
    rw [sxNeq_c] at h
    split at h
    · exact sxNeq_ok hB hx h hr
    rename_i h1
    split at h
    · exact sxNeq_ok hB hx h hr
    rename_i h2
    split at h
    · exact sxNeq_ok hB hx h hr
    rename_i h3
    split at h
    · rename_i h4
      obtain ⟨a, b, z, e1, e2, e3, e4⟩ := hF q List.mem_cons_self
      have e2 := sxNm_ok hB e2
      rw [sxSame_ok h2] at e2
      have e2 := sxN0 hB e2
      have e3 := sxNm_ok hB e3
      rw [sxSame_ok h3] at e3
      have e3 := sxN0 hB e3
      have h4 := sxEqv_ok hB h4 e1 (sxNm_ok hB hx)
      rw [Nat.eq_of_beq_eq_true h1, e2, e3] at e4
      simp only [sxSem] at e4
      intro hc
      rw [if_pos (by omega)] at e4
      omega
    · exact sxNeq_ok hB hx h hr
/-- of a run's end -/
def sxR1 (B : sxB) (o : Nat) (a s : sxN) : sxB := match sxSame (sxNm B a) (sxNm B s) with
  | true => B
  | false => match sxInP B a with
  | false => B
  | true => (fun B => (fun B => match sxG1 B 41 a with
      | none => B
      | some b => match sxBtw B b (tLo o).1 (tLo o).2 with
        | true => sxPut B o (sxOf a 1) (0, 0) s
        | false => match sxNot B b (tLo o).1 (tLo o).2 with
          | true => sxEqX B s a
          | false => match Nat.beq o 42 with
            | false => B
            | true => match sxNeq B b 32 (sxFo B.2.2.2.2 21) with
              | true => sxEqX B s a
              | false => B)
    (sxLeX (match Nat.beq o 42 with | true => sxPut B o s (0, 0) s | false => B) a s 0)) (match sxG1 B 40 (0, 0) with
      | none => B
      | some n => match sxLe B n a 0 with
        | true => sxPut B 41 a (0, 0) (0, -1)
        | false => match sxLe B a n 0 with
          | true => sxLeX B s n 0
          | false => B)
theorem sxR1_ok {o : Nat} {a s : sxN} {A : Int} (ho : isRn o = true) (hB : sxBR T σ B) (ha : sxNR σ a A) (hs : sxNR σ s (sxSem T o A 0)) : sxBR T σ (sxR1 B o a s) := by
  unfold sxR1
  split
  · exact hB
  split
  · exact hB
  rename_i hin
  obtain ⟨a0, a1⟩ := sxInP_ok hB hin ha
  dsimp only
  have h1 : sxBR T σ (match sxG1 B 40 (0, 0) with
      | none => B
      | some n => match sxLe B n a 0 with
        | true => sxPut B 41 a (0, 0) (0, -1)
        | false => match sxLe B a n 0 with
          | true => sxLeX B s n 0
          | false => B) := by
    split
    · exact hB
    · rename_i n hn
      have hn : sxNR σ n (tLn T) := sxG1_ok hB hn (sxNR.c0 hB 0)
      split
      · rename_i e
        have := sxLe_ok hB e hn ha
        exact sxPut_ok hB ha (sxNR.c0 hB 0) (by rw [show sxSem T 41 A 0 = -1 from tBy_out (by omega)]; exact sxNR.c0 hB _)
      · split
        · rename_i e
          have := sxLe_ok hB e ha hn
          have := rn_le (T := T) (b := 0) ho a0 (show A ≤ tLn T by omega)
          exact sxLeX_ok hB hs hn (by omega)
        · exact hB
  generalize (match sxG1 B 40 (0, 0) with
      | none => B
      | some n => match sxLe B n a 0 with
        | true => sxPut B 41 a (0, 0) (0, -1)
        | false => match sxLe B a n 0 with
          | true => sxLeX B s n 0
          | false => B) = B1 at h1 ⊢
  have h2 : sxBR T σ (sxLeX (match Nat.beq o 42 with | true => sxPut B1 o s (0, 0) s | false => B1) a s 0) := by
    have hi := rn_idem (T := T) (b := 0) (c := 0) ho a0 a1
    refine sxLeX_ok ?_ ha hs ?_
    · split
      · exact sxPut_ok h1 hs (sxNR.c0 h1 0) (by rw [hi]; exact hs)
      · exact h1
    · have := rn_ge (T := T) (b := 0) ho a0 a1
      omega
  generalize sxLeX (match Nat.beq o 42 with | true => sxPut B1 o s (0, 0) s | false => B1) a s 0 = B2 at h2 ⊢
  split
  · exact h2
  rename_i b hb
  have hb : sxNR σ b (tBy T A) := sxG1_ok h2 hb ha
  have stop : tFn T o A = false → sxBR T σ (sxEqX B2 s a) := fun hf => sxEqX_ok h2 hs (by rw [rn_stop ho a0 a1 hf]; exact ha)
  split
  · rename_i e
    have hf := tFn_iff.mpr (sxBtw_ok h2 e hb)
    exact sxPut_ok h2 (sxOf_ok ha 1) (sxNR.c0 h2 0) (by rw [rn_step (b := 0) ho hf]; exact hs)
  · split
    · rename_i e
      refine stop ?_
      cases hf : tFn T o A with
      | false => rfl
      | true =>
        have := tFn_iff.mp hf
        have := sxNot_ok h2 e hb
        omega
    · split
      · exact h2
      · rename_i e42
        have e42 := Nat.eq_of_beq_eq_true e42
        subst e42
        split
        · rename_i e1
          refine stop ?_
          have hd := sxNeq_ok h2 hb e1 (fun q hq => h2.2.2.2.2 q (sxFo_sub hq))
          cases hf : tFn T 42 A with
          | false => rfl
          | true =>
            have h3 := tFn_iff.mp hf
            have h3 : 32 ≤ tBy T A ∧ tBy T A ≤ 32 := h3
            omega
        · exact h2
/-- so many times a number -/
def sxTen (B : sxB) (c : Int) (x : sxN) : Option sxN := match sxBtw B x 0 70000000 with
  | false => none
  | true => match sxNm B x with
    | (0, v) => iFc (c * v) fun w => some (0, w)
    | (s + 1, v) => match sxFl B B.2.2.2.2 1 (s + 1, v) (0, c) with
      | some t => some t
      | none => sxFl B B.2.2.2.2 1 (0, c) (s + 1, v)
theorem sem_mul {a b : Int} (h : -2147483648 ≤ a ∧ a < 2147483648) (h2 : -2147483648 ≤ b ∧ b < 2147483648) (h3 : -2147483648 ≤ a * b ∧ a * b < 2147483648) : sxSem T 1 a b = a * b := by
  simp only [sxSem]
  rw [Int32.toInt_mul, Int32.toInt_ofInt_of_le (by omega) (by omega), Int32.toInt_ofInt_of_le (by omega) (by omega)]
  exact Int.bmod_eq_of_le (by omega) (by omega)
theorem sxTen_ok {c : Int} (hc : 0 ≤ c ∧ c ≤ 27) (hB : sxBR T σ B) (h : sxTen B c x = some t) (hx : sxNR σ x X) : sxNR σ t (c * X) := by
  unfold sxTen at h
  split at h
  · cases h
  · rename_i e
    have hb := sxBtw_ok hB e hx
    have hn := sxNm_ok hB hx
    have hm : 0 ≤ c * X ∧ c * X ≤ 27 * 70000000 := ⟨Int.mul_nonneg hc.1 hb.1, Int.mul_le_mul hc.2 hb.2 hb.1 (by decide)⟩
    have hm2 : X * c = c * X := Int.mul_comm _ _
    split at h
    · rename_i v e2
      rw [iFc_eq] at h
      cases h
      rw [e2] at hn
      rw [sxN0 hB hn]
      exact sxNR.c0 hB _
    · rename_i s v e2
      rw [e2] at hn
      split at h
      · rename_i t1 ht
        cases h
        have := sxFl_ok hB ht hB.2.2.2.2 hn (sxNR.c0 hB c)
        rw [sem_mul ⟨by omega, by omega⟩ ⟨by omega, by omega⟩ ⟨by omega, by omega⟩, hm2] at this
        exact this
      · have := sxFl_ok hB h hB.2.2.2.2 (sxNR.c0 hB c) hn
        rw [sem_mul ⟨by omega, by omega⟩ ⟨by omega, by omega⟩ ⟨by omega, by omega⟩] at this
        exact this
/-- a sum that has its symbol already -/
def sxAd0 (B : sxB) (x y : sxN) : Option sxN := match x.1 with
  | 0 => some (sxOf y x.2)
  | s + 1 => match y.1 with
    | 0 => some (sxOf x y.2)
    | r + 1 => match sxSf B.2.2.2.1 (s + 1) (r + 1) with
      | some u => iFc (x.2 + y.2) fun c => some (u, c)
      | none => none
theorem sxAd0_ok (hB : sxBR T σ B) (h : sxAd0 B x y = some t) (hx : sxNR σ x X) (hy : sxNR σ y Y) : sxNR σ t (X + Y) := by
  obtain ⟨s, cx⟩ := x
  obtain ⟨r, cy⟩ := y
  unfold sxAd0 at h
  dsimp only at h
  split at h
  · cases h
    have := sxN0 hB hx
    rw [this, Int.add_comm]
    exact sxOf_ok hy _
  · split at h
    · cases h
      have := sxN0 hB hy
      rw [this]
      exact sxOf_ok hx _
    · split at h
      · rename_i u hu
        rw [iFc_eq] at h
        cases h
        obtain ⟨a, e1, e2⟩ := hx
        obtain ⟨b, e3, e4⟩ := hy
        dsimp only at e1 e2 e3 e4
        exact ⟨a + b, sxSf_ok hu hB.2.2.2.1 e1 e3, by dsimp only; omega⟩
      · cases h
/-- a number and the byte at a place -/
def sxAdB (B : sxB) (x q : sxN) (l_ : sxF) : Option sxN := @List.rec _ (fun _ => Option sxN) (none) (fun f _ ih => match Nat.beq f.1 41 with
    | false => ih
    | true => match sxEqv B f.2.1 q with
      | false => ih
      | true => match sxAd0 B x (sxNm B f.2.2.2) with
        | some u => some u
        | none => match sxAd0 B x f.2.2.2 with
          | some u => some u
          | none => ih) l_
theorem sxAdB_c {B : sxB} {x q : sxN} {f : Nat × sxN × sxN × sxN} {r : sxF} : sxAdB B x q (f :: r) = (match Nat.beq f.1 41 with
    | false => sxAdB B x q r
    | true => match sxEqv B f.2.1 q with
      | false => sxAdB B x q r
      | true => match sxAd0 B x (sxNm B f.2.2.2) with
        | some u => some u
        | none => match sxAd0 B x f.2.2.2 with
          | some u => some u
          | none => sxAdB B x q r) := rfl
theorem sxAdB_ok {q : sxN} {Q : Int} (hB : sxBR T σ B) (hx : sxNR σ x X) (hq : sxNR σ q Q) : ∀ {F : sxF}, sxAdB B x q F = some t → (∀ f ∈ F, sxFt T σ f) → sxNR σ t (X + tBy T Q)
  | [], h, _ => by cases h
  | f :: r, h, hF => by
    have hr : ∀ f ∈ r, sxFt T σ f := fun f hf => hF f (List.mem_cons_of_mem _ hf)
    rw [sxAdB_c] at h
    split at h
    · exact sxAdB_ok hB hx hq h hr
    rename_i h1
    split at h
    · exact sxAdB_ok hB hx hq h hr
    rename_i h2
    obtain ⟨a, b, z, e1, e2, e3, e4⟩ := hF f List.mem_cons_self
    cases sxEqv_ok hB h2 e1 hq
    rw [Nat.eq_of_beq_eq_true h1] at e4
    have e4 : tBy T Q = z := e4
    split at h
    · rename_i u hu
      cases h
      rw [e4]
      exact sxAd0_ok hB hu hx (sxNm_ok hB e3)
    split at h
    · rename_i u hu
      cases h
      rw [e4]
      exact sxAd0_ok hB hu hx e3
    · exact sxAdB_ok hB hx hq h hr
/-- the byte there is such a one -/
def sxIsB (B : sxB) (q : sxN) (lo hi : Int) : Bool := match sxG1 B 41 q with
  | some b => sxBtw B b lo hi
  | none => false
def tCap (o : Nat) : Int := match o with | 45 => 1000000 | _ => 100000
/-- a digit more -/
def sxR2v (B : sxB) (o : Nat) (p q x : sxN) : sxB := match sxLe B p q 0 with
  | false => B
  | true => match sxIsB B q 48 57 with
  | false => B
  | true => match sxTen B 10 x with
    | none => B
    | some t => match sxAdB B t (sxNm B q) (sxFo B.2.2.2.2 41) with
      | none => B
      | some u => (fun w => match sxLe B w (0, tCap o) 0 with
        | true => sxPut B o p (sxOf q 1) w
        | false => match sxLe B (0, tCap o) w (-1) with
          | true => sxPut B o p (sxOf q 1) (0, tCap o)
          | false => B) (sxOf u (-48))
theorem sem_vl {o : Nat} {p q : Int} (ho : o = 45 ∨ o = 47) : sxSem T o p q = tVl T (tCap o) p (q - p).toNat := by
  rcases ho with rfl | rfl <;> rfl
theorem sxR2v_ok {o : Nat} {p q : sxN} {P Q : Int} (ho : o = 45 ∨ o = 47) (hB : sxBR T σ B) (hp : sxNR σ p P) (hq : sxNR σ q Q) (hx : sxNR σ x (sxSem T o P Q)) : sxBR T σ (sxR2v B o p q x) := by
  unfold sxR2v
  split
  · exact hB
  rename_i e1
  have h1 := sxLe_ok hB e1 hp hq
  split
  · exact hB
  split
  · exact hB
  rename_i t ht
  have ht := sxTen_ok ⟨by decide, by decide⟩ hB ht hx
  split
  · exact hB
  rename_i u hu
  have hu := sxAdB_ok hB ht (sxNm_ok hB hq) hu (fun q hq => hB.2.2.2.2 q (sxFo_sub hq))
  dsimp only
  have hw := sxOf_ok hu (-48)
  have key : sxSem T o P (Q + 1) = if 10 * sxSem T o P Q + (tBy T Q - 48) ≤ tCap o then 10 * sxSem T o P Q + (tBy T Q - 48) else tCap o := by
    rw [sem_vl ho, sem_vl ho, show (Q + 1 - P).toNat = (Q - P).toNat + 1 by omega, tVl, show P + ((Q - P).toNat : Int) = Q by omega]
  split
  · rename_i e2
    have h2 := sxLe_ok hB e2 hw (sxNR.c0 hB _)
    refine sxPut_ok hB hp (sxOf_ok hq 1) ?_
    rw [key, if_pos (by omega), show 10 * sxSem T o P Q + (tBy T Q - 48) = 10 * sxSem T o P Q + tBy T Q + -48 by omega]
    exact hw
  · split
    · rename_i e3
      have h2 := sxLe_ok hB e3 (sxNR.c0 hB _) hw
      refine sxPut_ok hB hp (sxOf_ok hq 1) ?_
      rw [key, if_neg (by omega)]
      exact sxNR.c0 hB _
    · exact hB
/-- a letter more -/
def sxR2c (B : sxB) (p k x : sxN) : sxB := match sxNm B k with
  | (0, .ofNat n) => (match sxIsB B (sxOf p (.ofNat n)) 97 122 with
    | false => B
    | true => match sxTen B 27 x with
    | none => B
    | some t => match sxAdB B t (sxNm B (sxOf p (.ofNat n))) (sxFo B.2.2.2.2 41) with
      | none => B
      | some u => sxPut B 49 p (0, .ofNat (n + 1)) (sxOf u (-96)))
  | _ => B
theorem sxR2c_ok {p k : sxN} {P Q : Int} (hB : sxBR T σ B) (hp : sxNR σ p P) (hk : sxNR σ k Q) (hx : sxNR σ x (tCo T P Q.toNat)) : sxBR T σ (sxR2c B p k x) := by
  unfold sxR2c
  split
  · rename_i n e
    have hk := sxNm_ok hB hk
    rw [e] at hk
    have hk := sxN0 hB hk
    split
    · exact hB
    split
    · exact hB
    rename_i t ht
    have ht := sxTen_ok ⟨by decide, by decide⟩ hB ht hx
    split
    · exact hB
    rename_i u hu
    have hu := sxAdB_ok hB ht (sxNm_ok hB (sxOf_ok hp _)) hu (fun q hq => hB.2.2.2.2 q (sxFo_sub hq))
    refine sxPut_ok hB hp (sxNR.c0 hB _) ?_
    have e2 : sxSem T 49 P (Int.ofNat (n + 1)) = 27 * tCo T P n + (tBy T (P + n) - 96) := rfl
    rw [e2]
    rw [hk, show (Int.ofNat n).toNat = n from rfl] at hu
    have := sxOf_ok hu (-96)
    rw [show 27 * tCo T P n + tBy T (P + Int.ofNat n) + -96 = 27 * tCo T P n + (tBy T (P + n) - 96) by simp only [Int.ofNat_eq_natCast]; omega] at this
    exact this
  · exact hB
/-- of a word's end: its code -/
def sxCwF (B0 : sxB) (p e : sxN) (l_ : sxF) : sxB → sxB := @List.rec _ (fun _ => sxB → sxB) (fun B => B) (fun f _ ih B => match Nat.beq f.1 49 with
    | false => ih B
    | true => match sxEqv B0 f.2.1 (sxNm B0 p) with
      | false => ih B
      | true => match sxNm B0 f.2.2.1 with
        | (0, .ofNat n) => (match Nat.ble n 6 with
          | false => ih B
          | true => match sxEqv B0 e (sxNm B0 (sxOf p (.ofNat n))) with
            | false => ih B
            | true => match sxBtw B0 f.2.2.2 0 387420488 with
              | false => ih B
              | true => ih (sxPut B 50 p (0, 0) f.2.2.2))
        | _ => ih B) l_
theorem sxCwF_c {B0 : sxB} {p e : sxN} {f : Nat × sxN × sxN × sxN} {r : sxF} {B : sxB} : sxCwF B0 p e (f :: r) B = (match Nat.beq f.1 49 with
    | false => sxCwF B0 p e r B
    | true => match sxEqv B0 f.2.1 (sxNm B0 p) with
      | false => sxCwF B0 p e r B
      | true => match sxNm B0 f.2.2.1 with
        | (0, .ofNat n) => (match Nat.ble n 6 with
          | false => sxCwF B0 p e r B
          | true => match sxEqv B0 e (sxNm B0 (sxOf p (.ofNat n))) with
            | false => sxCwF B0 p e r B
            | true => match sxBtw B0 f.2.2.2 0 387420488 with
              | false => sxCwF B0 p e r B
              | true => sxCwF B0 p e r (sxPut B 50 p (0, 0) f.2.2.2))
        | _ => sxCwF B0 p e r B) := rfl
theorem tCl_id {lo hi z : Int} (h1 : lo ≤ z) (h2 : z ≤ hi) : tCl lo hi z = z := by
  unfold tCl
  rw [if_neg (by omega), if_neg (by omega)]
theorem sxCwF_ok {B0 : sxB} {p e : sxN} {P : Int} (h0 : sxBR T σ B0) (hp : sxNR σ p P) (he : sxNR σ e (tWe T P)) : ∀ {F : sxF} {B : sxB}, (∀ f ∈ F, sxFt T σ f) → sxBR T σ B → sxBR T σ (sxCwF B0 p e F B)
  | [], _, _, hB => hB
  | f :: r, B, hF, hB => by
    have hr : ∀ f ∈ r, sxFt T σ f := fun f hf => hF f (List.mem_cons_of_mem _ hf)
    rw [sxCwF_c]
    split
    · exact sxCwF_ok h0 hp he hr hB
    rename_i h1
    split
    · exact sxCwF_ok h0 hp he hr hB
    rename_i h2
    split
    · rename_i n hn
      split
      · exact sxCwF_ok h0 hp he hr hB
      rename_i h3
      have h3 := Nat.le_of_ble_eq_true h3
      split
      · exact sxCwF_ok h0 hp he hr hB
      rename_i h4
      split
      · exact sxCwF_ok h0 hp he hr hB
      rename_i h5
      obtain ⟨a, b, z, e1, e2, e3, e4⟩ := hF f List.mem_cons_self
      cases sxEqv_ok h0 h2 e1 (sxNm_ok h0 hp)
      have e2 := sxNm_ok h0 e2
      rw [hn] at e2
      have e2 := sxN0 h0 e2
      rw [Nat.eq_of_beq_eq_true h1, e2] at e4
      have e4 : tCo T P n = z := e4
      have h4 := sxEqv_ok h0 h4 he (sxNm_ok h0 (sxOf_ok hp _))
      have h5 := sxBtw_ok h0 h5 e3
      refine sxCwF_ok h0 hp he hr (sxPut_ok hB hp (sxNR.c0 hB 0) ?_)
      have : sxSem T 50 P 0 = z := by
        show tCw T P = z
        unfold tCw
        simp only [Int.ofNat_eq_natCast] at h4
        rw [if_neg (by omega), show (tWe T P - P).toNat = n by omega, e4]
        exact tCl_id h5.1 h5.2
      rw [this]
      exact e3
    · exact sxCwF_ok h0 hp he hr hB
def sxR3w (B : sxB) (p e : sxN) : sxB := match sxLe B p e (-7) with
  | true => sxPut B 50 p (0, 0) (0, -1)
  | false => (fun B1 => sxCwF B1 p e (sxFo B1.2.2.2.2 49) B1) (sxPut B 49 p (0, 0) (0, 0))
theorem sxR3w_ok {p e : sxN} {P : Int} (hB : sxBR T σ B) (hp : sxNR σ p P) (he : sxNR σ e (tWe T P)) : sxBR T σ (sxR3w B p e) := by
  unfold sxR3w
  split
  · rename_i h
    have h := sxLe_ok hB h hp he
    refine sxPut_ok hB hp (sxNR.c0 hB 0) ?_
    have : sxSem T 50 P 0 = -1 := by
      show tCw T P = -1
      unfold tCw
      rw [if_pos (by omega)]
    rw [this]
    exact sxNR.c0 hB _
  · dsimp only
    have h1 := sxPut_ok (o := 49) (t := (0, 0)) hB hp (sxNR.c0 hB 0) (sxNR.c0 hB 0)
    exact sxCwF_ok h1 hp he (fun q hq => h1.2.2.2.2 q (sxFo_sub hq)) h1
/-- of a number's end: the number -/
def sxNvF (B0 : sxB) (o : Nat) (p e : sxN) (l_ : sxF) : sxB → sxB := @List.rec _ (fun _ => sxB → sxB) (fun B => B) (fun f _ ih B => match Nat.beq f.1 o with
    | false => ih B
    | true => match sxEqv B0 f.2.1 (sxNm B0 p) with
      | false => ih B
      | true => match sxEqv B0 e (sxNm B0 f.2.2.1) with
        | false => ih B
        | true => match sxBtw B0 f.2.2.2 0 (tCap o) with
          | false => ih B
          | true => ih (sxPut B (o + 1) p (0, 0) f.2.2.2)) l_
theorem sxNvF_c {B0 : sxB} {o : Nat} {p e : sxN} {f : Nat × sxN × sxN × sxN} {r : sxF} {B : sxB} : sxNvF B0 o p e (f :: r) B = (match Nat.beq f.1 o with
    | false => sxNvF B0 o p e r B
    | true => match sxEqv B0 f.2.1 (sxNm B0 p) with
      | false => sxNvF B0 o p e r B
      | true => match sxEqv B0 e (sxNm B0 f.2.2.1) with
        | false => sxNvF B0 o p e r B
        | true => match sxBtw B0 f.2.2.2 0 (tCap o) with
          | false => sxNvF B0 o p e r B
          | true => sxNvF B0 o p e r (sxPut B (o + 1) p (0, 0) f.2.2.2)) := rfl
theorem sem_nv {o : Nat} {p b : Int} (ho : o = 45 ∨ o = 47) : sxSem T (o + 1) p b = tCl 0 (tCap o) (tVl T (tCap o) p (tNe T p - p).toNat) := by
  rcases ho with rfl | rfl <;> rfl
theorem sxNvF_ok {B0 : sxB} {o : Nat} {p e : sxN} {P : Int} (ho : o = 45 ∨ o = 47) (h0 : sxBR T σ B0) (hp : sxNR σ p P) (he : sxNR σ e (tNe T P)) : ∀ {F : sxF} {B : sxB}, (∀ f ∈ F, sxFt T σ f) → sxBR T σ B → sxBR T σ (sxNvF B0 o p e F B)
  | [], _, _, hB => hB
  | f :: r, B, hF, hB => by
    have hr : ∀ f ∈ r, sxFt T σ f := fun f hf => hF f (List.mem_cons_of_mem _ hf)
    rw [sxNvF_c]
    split
    · exact sxNvF_ok ho h0 hp he hr hB
    rename_i h1
    split
    · exact sxNvF_ok ho h0 hp he hr hB
    rename_i h2
    split
    · exact sxNvF_ok ho h0 hp he hr hB
    rename_i h3
    split
    · exact sxNvF_ok ho h0 hp he hr hB
    rename_i h4
    obtain ⟨a, b, z, e1, e2, e3, e4⟩ := hF f List.mem_cons_self
    cases sxEqv_ok h0 h2 e1 (sxNm_ok h0 hp)
    have h3 := sxEqv_ok h0 h3 he (sxNm_ok h0 e2)
    have h4 := sxBtw_ok h0 h4 e3
    rw [Nat.eq_of_beq_eq_true h1, sem_vl ho, ← h3] at e4
    refine sxNvF_ok ho h0 hp he hr (sxPut_ok hB hp (sxNR.c0 hB 0) ?_)
    rw [sem_nv ho, e4, tCl_id h4.1 h4.2]
    exact e3
def sxR3n (B : sxB) (p e : sxN) : sxB := (fun B1 => (fun B2 => sxNvF B2 47 p e (sxFo B2.2.2.2.2 47) (sxNvF B2 45 p e (sxFo B2.2.2.2.2 45) B2)) (sxPut B1 47 p p (0, 0))) (sxPut B 45 p p (0, 0))
theorem sxR3n_ok {p e : sxN} {P : Int} (hB : sxBR T σ B) (hp : sxNR σ p P) (he : sxNR σ e (tNe T P)) : sxBR T σ (sxR3n B p e) := by
  unfold sxR3n
  dsimp only
  have z : ∀ o, o = 45 ∨ o = 47 → sxSem T o P P = 0 := fun o ho => by
    rw [sem_vl ho, show (P - P).toNat = 0 by omega]
    rfl
  have h1 := sxPut_ok (o := 45) (t := (0, 0)) hB hp hp (by rw [z 45 (Or.inl rfl)]; exact sxNR.c0 hB 0)
  have h2 := sxPut_ok (o := 47) (t := (0, 0)) h1 hp hp (by rw [z 47 (Or.inr rfl)]; exact sxNR.c0 h1 0)
  exact sxNvF_ok (Or.inr rfl) h2 hp he (fun q hq => h2.2.2.2.2 q (sxFo_sub hq)) (sxNvF_ok (Or.inl rfl) h2 hp he (fun q hq => h2.2.2.2.2 q (sxFo_sub hq)) h2)
end SXRUL

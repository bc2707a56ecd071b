/-! SX: runs to ends and cuts; methods -/
noncomputable section SXRUN
/-- a number that falls: one symbol less another, and a constant -/
abbrev sxM1 : Type := Nat × Nat × Int
abbrev sxMe : Type := sxM1 × sxM1 × sxM1
/-- a cut: place, pattern, what falls, cells and slots so far -/
abbrev sxCu : Type := Nat × sxPt × sxMe × Nat × Nat
/-- a method's job: where; contracts; method; cuts; symbols that stay; ends; throws; cells, slots; what is split where -/
abbrev sxJb : Type := sxCx × List sxCt × Nat × List sxCu × Nat × List sxPt × List (Nat × sxPt) × (Nat × Nat) × List (Nat × Nat × Nat)
def sxFG (l_ : sxE) : Nat → Nat → Option Int := @List.rec _ (fun _ => Nat → Nat → Option Int) (fun _ _ => none) (fun q _ ih s t => match Nat.beq q.1 s with
    | false => ih s t
    | true => match Nat.beq q.2.1 t with
      | false => ih s t
      | true => some q.2.2) l_
theorem sxFG_c {q : Nat × Nat × Int} {r : sxE} {s : Nat} {t : Nat} : sxFG (q :: r) s t = (match Nat.beq q.1 s with
    | false => sxFG r s t
    | true => match Nat.beq q.2.1 t with
      | false => sxFG r s t
      | true => some q.2.2) := rfl
theorem sxFG_ok {σ : List Int} : ∀ {E : sxE} {s t : Nat} {c : Int}, sxFG E s t = some c → (∀ q ∈ E, sxDf σ q) → ∃ a b, σ[s]? = some a ∧ σ[t]? = some b ∧ a - b ≤ c
  | [], _, _, _, h, _ => by cases h
  | q :: r, s, t, c, h, hE => by
    have ih := fun h => sxFG_ok (σ := σ) (E := r) (s := s) (t := t) (c := c) h (fun q hq => hE q (List.mem_cons_of_mem _ hq))
    rw [sxFG_c] at h
    split at h
    · exact ih h
    · rename_i h1
      split at h
      · exact ih h
      · rename_i h2
        cases h
        obtain ⟨a, b, e1, e2, e3⟩ := hE q List.mem_cons_self
        rw [Nat.eq_of_beq_eq_true h1] at e1
        rw [Nat.eq_of_beq_eq_true h2] at e2
        exact ⟨a, b, e1, e2, e3⟩
/-- at most how much one symbol is above another -/
def sxUb (B : sxB) (s t : Nat) : Option Int := match Nat.beq s t with
  | true => some 0
  | false => match sxRgS B s with
    | some p => (match sxRgS B t with
      | some q => (match sxFG B.2.2.1 s t with
        | some c => some (iMin c (p.2 - q.1))
        | none => some (p.2 - q.1))
      | none => none)
    | none => none
theorem sxUb_ok {T : Nat} {σ : List Int} {B : sxB} {s t : Nat} {c : Int} (hB : sxBR T σ B) (h : sxUb B s t = some c) : σ.getD s 0 - σ.getD t 0 ≤ c := by
  unfold sxUb at h
  split at h
  · rename_i e
    cases h
    rw [Nat.eq_of_beq_eq_true e]
    omega
  · split at h
    · rename_i p hp
      split at h
      · rename_i q hq
        obtain ⟨a, e1, e2, e3⟩ := sxRgS_ok hB hp
        obtain ⟨b, e4, e5, e6⟩ := sxRgS_ok hB hq
        have h1 : σ.getD s 0 = a := by rw [List.getD_eq_getElem?_getD, e1]; rfl
        have h2 : σ.getD t 0 = b := by rw [List.getD_eq_getElem?_getD, e4]; rfl
        rw [h1, h2]
        split at h
        · rename_i c0 hc
          cases h
          obtain ⟨a', b', f1, f2, f3⟩ := sxFG_ok hc hB.2.2.1
          cases Option.some.inj (e1.symm.trans f1)
          cases Option.some.inj (e4.symm.trans f2)
          exact iMin_le f3 (by omega)
        · cases h
          omega
      · cases h
    · cases h
def sxMv (σ : List Int) (m : sxM1) : Int := σ.getD m.1 0 - σ.getD m.2.1 0 + m.2.2
/-- at most how much a number there is above one here -/
def sxMu (B : sxB) (θ : List sxN) (x y : sxM1) : Option Int := match aNth θ x.1 with
  | some n => (match aNth θ x.2.1 with
    | some m => (match sxUb B n.1 y.1 with
      | some u => (match sxUb B y.2.1 m.1 with
        | some v => some (u + v + (n.2 - m.2 + x.2.2 - y.2.2))
        | none => none)
      | none => none)
    | none => none)
  | none => none
theorem sxMu_ok {T : Nat} {σ : List Int} {B : sxB} {θ : List sxN} {x y : sxM1} {c : Int} (hB : sxBR T σ B) (h : sxMu B θ x y = some c) : sxMv (sxSb σ θ) x - sxMv σ y ≤ c := by
  unfold sxMu at h
  split at h
  · rename_i n hn
    split at h
    · rename_i m hm
      split at h
      · rename_i u hu
        split at h
        · rename_i v hv
          cases h
          have h1 := sxUb_ok hB hu
          have h2 := sxUb_ok hB hv
          have e1 : (sxSb σ θ).getD x.1 0 = sxEv σ n := by rw [List.getD_eq_getElem?_getD, sxSb_get hn]; rfl
          have e2 : (sxSb σ θ).getD x.2.1 0 = sxEv σ m := by rw [List.getD_eq_getElem?_getD, sxSb_get hm]; rfl
          unfold sxMv
          rw [e1, e2]
          unfold sxEv
          omega
        · cases h
      · cases h
    · cases h
  · cases h
def sxMlt (B : sxB) (θ : List sxN) (x y : sxMe) : Bool := match sxMu B θ x.1 y.1 with
  | none => false
  | some c => match iLe c (-1) with
    | true => true
    | false => match iLe c 0 with
      | false => false
      | true => match sxMu B θ x.2.1 y.2.1 with
        | none => false
        | some c => match iLe c (-1) with
          | true => true
          | false => match iLe c 0 with
            | false => false
            | true => match sxMu B θ x.2.2 y.2.2 with
              | none => false
              | some c => iLe c (-1)
/-- smaller, first numbers first -/
def sxLt3 (x y : Int × Int × Int) : Prop := x.1 < y.1 ∨ (x.1 ≤ y.1 ∧ (x.2.1 < y.2.1 ∨ (x.2.1 ≤ y.2.1 ∧ x.2.2 < y.2.2)))
def sxMvs (σ : List Int) (m : sxMe) : Int × Int × Int := (sxMv σ m.1, sxMv σ m.2.1, sxMv σ m.2.2)
theorem sxMlt_ok {T : Nat} {σ : List Int} {B : sxB} {θ : List sxN} {x y : sxMe} (hB : sxBR T σ B) (h : sxMlt B θ x y = true) : sxLt3 (sxMvs (sxSb σ θ) x) (sxMvs σ y) := by
  unfold sxMlt at h
  split at h
  · cases h
  · rename_i c1 h1
    have h1 := sxMu_ok hB h1
    split at h
    · rename_i e
      have e := iLe_ok e
      exact Or.inl (by simp only [sxMvs]; omega)
    · split at h
      · cases h
      · rename_i e
        have e := iLe_ok e
        refine Or.inr ⟨by simp only [sxMvs]; omega, ?_⟩
        split at h
        · cases h
        · rename_i c2 h2
          have h2 := sxMu_ok hB h2
          split at h
          · rename_i e2
            have e2 := iLe_ok e2
            exact Or.inl (by simp only [sxMvs]; omega)
          · split at h
            · cases h
            · rename_i e2
              have e2 := iLe_ok e2
              refine Or.inr ⟨by simp only [sxMvs]; omega, ?_⟩
              split at h
              · cases h
              · rename_i c3 h3
                have h3 := sxMu_ok hB h3
                have := iLe_ok h
                simp only [sxMvs]
                omega
theorem sxLex {Q : Int × Int × Int → Prop} (h : ∀ x, (0 ≤ x.1 ∧ 0 ≤ x.2.1 ∧ 0 ≤ x.2.2) → (∀ y, (0 ≤ y.1 ∧ 0 ≤ y.2.1 ∧ 0 ≤ y.2.2) → sxLt3 y x → Q y) → Q x) : ∀ x, (0 ≤ x.1 ∧ 0 ≤ x.2.1 ∧ 0 ≤ x.2.2) → Q x := by
  have key : ∀ a b c : Nat, ∀ x : Int × Int × Int, (0 ≤ x.1 ∧ 0 ≤ x.2.1 ∧ 0 ≤ x.2.2) → x.1.toNat ≤ a → (x.1.toNat = a → x.2.1.toNat ≤ b) → (x.1.toNat = a → x.2.1.toNat = b → x.2.2.toNat ≤ c) → Q x := by
    intro a
    induction a using Nat.strongRecOn with
    | _ a iha =>
      intro b
      induction b using Nat.strongRecOn with
      | _ b ihb =>
        intro c
        induction c using Nat.strongRecOn with
        | _ c ihc =>
          intro x hx h1 h2 h3
          refine h x hx (fun y hy hlt => ?_)
          by_cases g1 : y.1.toNat < a
          · exact iha y.1.toNat g1 y.2.1.toNat y.2.2.toNat y hy (Nat.le_refl _) (fun _ => Nat.le_refl _) (fun _ _ => Nat.le_refl _)
          · have e1 : x.1.toNat = a := by
              rcases hlt with q | ⟨q, -⟩ <;> omega
            have e2 : y.1.toNat = a := by
              rcases hlt with q | ⟨q, -⟩ <;> omega
            have h2 := h2 e1
            rcases hlt with q | ⟨q, q2⟩
            · omega
            by_cases g2 : y.2.1.toNat < b
            · exact ihb y.2.1.toNat g2 y.2.2.toNat y hy (by omega) (fun _ => Nat.le_refl _) (fun _ _ => Nat.le_refl _)
            · have e3 : x.2.1.toNat = b := by
                rcases q2 with q3 | ⟨q3, -⟩ <;> omega
              have h3 := h3 e1 e3
              rcases q2 with q3 | ⟨q3, q4⟩
              · omega
              have e4 : y.2.1.toNat = b := by omega
              exact ihc y.2.2.toNat (by omega) y hy (by omega) (fun _ => by omega) (fun _ _ => Nat.le_refl _)
  exact fun x hx => key _ _ _ x hx (Nat.le_refl _) (fun _ => Nat.le_refl _) (fun _ _ => Nat.le_refl _)
/-- does this end fit one of the patterns? -/
def sxFitP (J : sxJb) (st : List sxV) (B : sxB) (O : sxO) (G : sxG) (p : sxPt) : Bool := match sxQk2 p.2.1 p [] O B (fun _ => sxMat2 J.1.1 G J.2.2.2.2.1 p [] st B O) with
  | some (B1, O1) => sxThk (sxMtc J.2.2.2.2.1 p [] st B1 O1) fun θ => sxIncl J.2.2.2.2.1 θ p [] st B1 O1 G
  | none => false
def sxFitC (J : sxJb) (me : Option sxMe) (pc : Nat) (ls : sxL) (st : List sxV) (B : sxB) (O : sxO) (G : sxG) (C S : Nat) (u : sxCu) : Bool := match Nat.beq u.1 pc with
  | false => false
  | true => match Nat.ble C u.2.2.2.1 with
    | false => false
    | true => match Nat.ble S u.2.2.2.2 with
      | false => false
      | true => match sxQk2 u.2.1.2.1 u.2.1 ls O B (fun _ => sxMat2 J.1.1 G J.2.2.2.2.1 u.2.1 ls st B O) with
        | some (B1, O1) => sxThk (sxMtc J.2.2.2.2.1 u.2.1 ls st B1 O1) fun θ => match sxIncl J.2.2.2.2.1 θ u.2.1 ls st B1 O1 G with
          | false => false
          | true => match me with
            | none => true
            | some b => sxMlt B1 θ u.2.2.1 b
        | none => false
def sxTry (X : sxCx) (s : sxS) (l_ : List sxCt) : Option (List sxE1) := @List.rec _ (fun _ => Option (List sxE1)) (none) (fun c _ ih => match Nat.beq s.2.1 c.1 with
    | false => ih
    | true => match sxApp X c s with
      | some L => some L
      | none => ih) l_
theorem sxTry_c {X : sxCx} {s : sxS} {c : sxCt} {r : List sxCt} : sxTry X s (c :: r) = (match Nat.beq s.2.1 c.1 with
    | false => sxTry X s r
    | true => match sxApp X c s with
      | some L => some L
      | none => sxTry X s r) := rfl
def sxStp (X : sxCx) (s : sxS) : Option (List sxE1) := match s with
  | (F, k, pc, ls, st, B, O, G, C, S) => bFc k fun k => bFc pc fun pc => match sxStepAt X k pc with
    | some g => g F ls st B O G C S
    | none => none
def sxStpL (X : sxCx) (l_ : List sxS) : Option (List sxE1) := @List.rec _ (fun _ => Option (List sxE1)) (some []) (fun s _ ih => match sxStp X s with
    | none => none
    | some L => match ih with
      | none => none
      | some L2 => some (L ++ L2)) l_
theorem sxStpL_c {X : sxCx} {s : sxS} {r : List sxS} : sxStpL X (s :: r) = (match sxStp X s with
    | none => none
    | some L => match sxStpL X r with
      | none => none
      | some L2 => some (L ++ L2)) := rfl
/-- is there a number without a value? -/
def sxBadD (B : sxB) (l_ : sxD) : Bool := @List.rec _ (fun _ => Bool) (false) (fun q _ ih => match sxBad B q.1 with
    | true => true
    | false => ih) l_
theorem sxBadD_c {B : sxB} {q : Nat × Int × Int} {r : sxD} : sxBadD B (q :: r) = (match sxBad B q.1 with
    | true => true
    | false => sxBadD B r) := rfl
theorem sxBadD_no {T : Nat} {σ : List Int} {B : sxB} (hB : sxBR T σ B) : ∀ {D : sxD}, sxBadD B D = false
  | [] => rfl
  | q :: r => by
    rw [sxBadD_c]
    rw [sxBad_no hB]
    exact sxBadD_no hB
/-- a word's code, ahead of a number, the number, behind it -/
def sxSpW (s : sxS) (j : Nat) : Option (List sxS) := match s with
  | (F, k, pc, ls, st, B, O, G, C, S) => match sxOl O 1 (0, 4) with
    | some (.inr (false, a)) => (match sxG1 B 50 a with
      | some w => some ((sxLtC B w (0, Int.ofNat j) ++ (sxEqC B w (0, Int.ofNat j) ++ sxLtC B (0, Int.ofNat j) w)).map (fun B2 => (F, k, pc, ls, st, B2, O, G, C, S)))
      | none => none)
    | _ => none
/-- a local, value by value -/
def sxSpJ (s : sxS) (j : Nat) : Option (List sxS) := match s with
  | (F, k, pc, ls, st, B, O, G, C, S) => match sxGt ls j with
    | some (.inr (_, n)) => (match sxRg B n with
      | some q => some ((List.range (q.2 - q.1 + 1).toNat).flatMap (fun v => (sxEqC B n (0, q.1 + Int.ofNat v)).map (fun B2 => (F, k, pc, ls, st, B2, O, G, C, S))))
      | none => none)
    | _ => none
/-- a local, by the text's week: ahead of it, it, behind it -/
def sxSpWk (s : sxS) (j : Nat) : Option (List sxS) := match s with
  | (F, k, pc, ls, st, B, O, G, C, S) => match sxGt ls j with
    | some (.inr (_, n)) => (match sxG1 B 62 (0, 0) with
      | some w => some ((sxLtC B n w ++ (sxEqC B n w ++ sxLtC B w n)).map (fun B2 => (F, k, pc, ls, st, B2, O, G, C, S)))
      | none => none)
    | _ => none
/-- a local: below 0, below the bound, not below it -/
def sxSp3 (B : sxB) (n : sxN) (m : Int) : List sxB := sxLtC B n (0, 0) ++ (sxLeC B (0, 0) n).flatMap (fun B1 => sxLtC B1 n (0, m) ++ sxLeC B1 (0, m) n)
def sxSpNr (s : sxS) (j : Nat) : Option (List sxS) := match s with
  | (F, k, pc, ls, st, B, O, G, C, S) => match sxGt ls (j % 100) with
    | some (.inr (_, n)) => some ((sxSp3 B n (Int.ofNat (j / 100))).map (fun B2 => (F, k, pc, ls, st, B2, O, G, C, S)))
    | _ => none
/-- a local: below 0, below 1 shifted by a cell's number, not below it -/
def sxSpSh (s : sxS) (j : Nat) : Option (List sxS) := match s with
  | (F, k, pc, ls, st, B, O, G, C, S) => match sxGt ls (j % 100) with
    | some (.inr (_, n)) => (match sxOl O (j / 10000) (0, Int.ofNat (j / 100 % 100)) with
      | some (.inr (false, u)) => (match sxRem1 6 (sxShl sxM32 32) B (0, 1) u with
        | some (B0, w) => some ((sxLtC B0 n (0, 0) ++ (sxLeC B0 (0, 0) n).flatMap (fun B1 => sxLtC B1 n w ++ sxLeC B1 w n)).map (fun B2 => (F, k, pc, ls, st, B2, O, G, C, S)))
        | none => none)
      | _ => none)
    | _ => none
/-- the base of a table of a local -/
def sxSpB (s : sxS) (j : Nat) : Option (List sxS) := match s with
  | (F, k, pc, ls, st, B, O, G, C, S) => match sxGt ls (j % 100) with
    | some (.inr (_, n)) => (match Nat.beq (j / 100) 67 with
      | true => (match sxG1 B 68 (0, 0) with
        | some z => some [(F, k, pc, ls, st, sxPut B 67 n (0, 0) z, O, G, C, S)]
        | none => none)
      | false => match Nat.beq (j / 100) 63 || (Nat.beq (j / 100) 64 || Nat.beq (j / 100) 65) with
      | true => some [(F, k, pc, ls, st, sxPut B (j / 100) n (0, 0) (0, 0), O, G, C, S)]
      | false => none)
    | _ => none
/-- a number of a cell, value by value -/
def sxSplt (K : sxKx) (s : sxS) (i j : Nat) : Option (List sxS) := match s with
  | (F, k, pc, ls, st, B, O, G, C, S) => match Nat.beq i K.2.1 with
    | true => (match sxHk K.2.1 j B O G with
      | some q => (match sxBadD q.1 q.1.2.1 with
        | true => some []
        | false => some [(F, k, pc, ls, st, q.1, q.2.1, q.2.2, C, S)])
      | none => some [s])
    | false => match Nat.beq i (K.2.1 + 1) with
    | true => sxSpW s j
    | false => match Nat.beq i (K.2.1 + 2) with
    | true => sxSpJ s j
    | false => match Nat.beq i (K.2.1 + 3) with
    | true => sxSpWk s j
    | false => match Nat.beq i (K.2.1 + 4) with
    | true => sxSpNr s j
    | false => match Nat.beq i (K.2.1 + 6) with
    | true => sxSpSh s j
    | false => match Nat.beq i (K.2.1 + 7) with
    | true => sxSpB s j
    | false => match sxMatz K G [(i, j)] B O with
    | none => none
    | some (B1, O1) => match sxOl O1 i (0, Int.ofNat j) with
      | some (.inr (_, n)) => (match sxRg B1 n with
        | some q => some ((List.range (q.2 - q.1 + 1).toNat).flatMap (fun v => (sxEqC B1 n (0, q.1 + Int.ofNat v)).map (fun B2 => (F, k, pc, ls, st, B2, O1, G, C, S))))
        | none => none)
      | _ => none
def sxSpG (l_ : List (Nat × Nat × Nat)) : Nat → Option (Nat × Nat) := @List.rec _ (fun _ => Nat → Option (Nat × Nat)) (fun _ => none) (fun q _ ih pc => match Nat.beq q.1 pc with | true => some q.2 | false => ih pc) l_
theorem sxSpG_c {q : Nat × Nat × Nat} {r : List (Nat × Nat × Nat)} {pc : Nat} : sxSpG (q :: r) pc = (match Nat.beq q.1 pc with | true => some q.2 | false => sxSpG r pc) := rfl
def sxNext (J : sxJb) (s : sxS) : Option (List sxE1) := match s.1 with
  | [] => (match sxSpG J.2.2.2.2.2.2.2.2 s.2.2.1 with
    | none => sxStp J.1 s
    | some q => match sxSplt J.1.1 s q.1 q.2 with
      | none => none
      | some l => sxStpL J.1 l)
  | _ :: _ => match s.2.2.1 with
    | 0 => (match s.2.2.2.2.1 with
      | [] => (match sxTry J.1 s J.2.1 with
        | some L => some L
        | none => sxStp J.1 s)
      | _ :: _ => sxStp J.1 s)
    | n + 1 => (match sxSpG J.2.2.2.2.2.2.2.2 (n + 1 + 100000 * (s.2.1 + 1)) with
      | none => sxStp J.1 s
      | some q => match sxSplt J.1.1 s q.1 q.2 with
        | none => none
        | some l => sxStpL J.1 l)
def sxIsC (J : sxJb) (s : sxS) : Bool := match s.1 with
  | [] => (match Nat.beq s.2.1 J.2.2.1 with
    | true => sxHas J.2.2.2.1 (fun u => Nat.beq u.1 s.2.2.1)
    | false => false)
  | _ :: _ => false
def sxGo (J : sxJb) (me : Option sxMe) (n : Nat) : sxE1 → Bool := Nat.rec (fun _ => false) (fun _ ih e => match e with
  | .inr (.inl (v, B, O, G, C, S)) => (match Nat.ble C J.2.2.2.2.2.2.2.1.1 with
    | true => (match Nat.ble S J.2.2.2.2.2.2.2.1.2 with
      | true => J.2.2.2.2.2.1.any (sxFitP J v.toList B O G)
      | false => false)
    | false => false)
  | .inr (.inr (E, B, O, G, C, S)) => (match Nat.ble C J.2.2.2.2.2.2.2.1.1 with
    | true => (match Nat.ble S J.2.2.2.2.2.2.2.1.2 with
      | true => J.2.2.2.2.2.2.1.any (fun q => match Nat.beq q.1 E with | true => sxFitP J [] B O G q.2 | false => false)
      | false => false)
    | false => false)
  | .inl s => (match sxIsC J s with
    | true => J.2.2.2.1.any (sxFitC J me s.2.2.1 s.2.2.2.1 s.2.2.2.2.1 s.2.2.2.2.2.1 s.2.2.2.2.2.2.1 s.2.2.2.2.2.2.2.1 s.2.2.2.2.2.2.2.2.1 s.2.2.2.2.2.2.2.2.2)
    | false => match sxNext J s with
      | some L => sxAll L ih
      | none => false)) n
def sxGo1 (J : sxJb) (me : Option sxMe) (n : Nat) (s : sxS) : Bool := match sxNext J s with
  | some L => sxAll L (sxGo J me n)
  | none => false
def sxPos (p : sxPt) (m : sxM1) : Bool := match Nat.blt m.1 p.1 with
  | true => (match Nat.blt m.2.1 p.1 with
    | true => sxLe (p.1, p.2.1, p.2.2.1, [], []) (m.2.1, 0) (m.1, 0) m.2.2
    | false => false)
  | false => false
def sxPos3 (p : sxPt) (m : sxMe) : Bool := match sxPos p m.1 with
  | true => (match sxPos p m.2.1 with | true => sxPos p m.2.2 | false => false)
  | false => false
def sxSt (k pc : Nat) (p : sxPt) (C S : Nat) : sxS := ([], k, pc, p.2.2.2.1, p.2.2.2.2.1, (p.1, p.2.1, p.2.2.1, [], p.2.2.2.2.2.2.2), p.2.2.2.2.2.1, p.2.2.2.2.2.2.1, C, S)
/-- a cut holds -/
def sxCuB (J : sxJb) (n : Nat) (u : sxCu) : Bool := match sxPos3 u.2.1 u.2.2.1 with
  | true => sxGo1 J (some u.2.2.1) n (sxSt J.2.2.1 u.1 u.2.1 u.2.2.2.1 u.2.2.2.2)
  | false => false
/-- the job of a contract -/
def sxJob (K : sxKx) (cts : List sxCt) (c : sxCt) (cuts : List sxCu) (sp : List (Nat × Nat × Nat)) : sxJb := ((K, c.2.2.2.1, c.2.1, none), cts, c.1, cuts, c.2.2.1.1, c.2.2.2.2.1, c.2.2.2.2.2.1, (c.2.2.2.2.2.2.1, c.2.2.2.2.2.2.2), sp)
def sxMeB (J : sxJb) (pre : sxPt) (n : Nat) : Bool := match J.2.2.2.1.all (sxCuB J n) with
  | true => sxGo1 J none n (sxSt J.2.2.1 0 pre 0 0)
  | false => false
end SXRUN

/-! SX: the operations' rules -/
noncomputable section SXOPS
def sxFr (B : sxB) (lo hi : Int) : sxB × sxN := iFc lo fun lo => iFc hi fun hi => match iEq lo hi with
  | true => (B, (0, lo))
  | false => bFc B.1 fun n => ((n + 1, (n, lo, hi) :: B.2.1, B.2.2), (n, 0))
theorem sxFr_eq (B : sxB) (lo hi : Int) : sxFr B lo hi = sxNew B lo hi := by
  unfold sxFr sxNew
  simp only [iFc_eq, bFc_eq]
  cases iEq lo hi <;> rfl
def iMin (a b : Int) : Int := match iLe a b with | true => a | false => b
theorem iMin_le {a b z : Int} (h1 : z ≤ a) (h2 : z ≤ b) : z ≤ iMin a b := by
  unfold iMin
  split
  · exact h1
  · exact h2
variable {T : Nat} {σ : List Int} {B : sxB} {x y : sxN} {X Y z m : Int} {w : sxB × sxN}
def sxGive (T : Nat) (σ : List Int) (q : sxB × sxN) (z : Int) : Prop := ∃ σ', sxUp σ σ' ∧ sxBR T σ' q.1 ∧ sxNR σ' q.2 z
theorem sxFr_ok {lo hi : Int} (hB : sxBR T σ B) (h1 : lo ≤ z) (h2 : z ≤ hi) : sxGive T σ (sxFr B lo hi) z := by
  rw [sxFr_eq]
  exact sxNew_ok hB h1 h2
def sxAny (m : Int) (B : sxB) : sxB × sxN := sxFr B (-m) (m - 1)
theorem sxAny_ok (hB : sxBR T σ B) (h1 : -m ≤ z) (h2 : z < m) : sxGive T σ (sxAny m B) z := sxFr_ok hB h1 (by omega)
theorem sxGive.keep (hB : sxBR T σ B) {n : sxN} (h : sxNR σ n z) : sxGive T σ (B, n) z := ⟨σ, sxUp.rf, hB, h⟩
def sxOff (q : sxB × sxN) (c : Int) : sxB × sxN := iFc (q.2.2 + c) fun k => (q.1, (q.2.1, k))
theorem sxOff_ok {q : sxB × sxN} {c : Int} (h : sxGive T σ q z) : sxGive T σ (sxOff q c) (z + c) := by
  obtain ⟨σ', h1, h2, u, h3, h4⟩ := h
  unfold sxOff
  rw [iFc_eq]
  exact ⟨σ', h1, h2, u, h3, by dsimp only; omega⟩
/-- a sum, a difference that has its symbol already -/
def sxSf (l_ : sxA) : Nat → Nat → Option Nat := @List.rec _ (fun _ => Nat → Nat → Option Nat) (fun _ _ => none) (fun q _ ih s t => match Nat.beq q.2.1 s with
    | true => (match Nat.beq q.2.2 t with | true => some q.1 | false => ih s t)
    | false => ih s t) l_
theorem sxSf_c {q : Nat × Nat × Nat} {r : sxA} {s : Nat} {t : Nat} : sxSf (q :: r) s t = (match Nat.beq q.2.1 s with
    | true => (match Nat.beq q.2.2 t with | true => some q.1 | false => sxSf r s t)
    | false => sxSf r s t) := rfl
def sxDf0 (l_ : sxA) : Nat → Nat → Option Nat := @List.rec _ (fun _ => Nat → Nat → Option Nat) (fun _ _ => none) (fun q _ ih s t => match Nat.beq q.1 s with
    | true => (match Nat.beq q.2.2 t with | true => some q.2.1 | false => ih s t)
    | false => ih s t) l_
theorem sxDf0_c {q : Nat × Nat × Nat} {r : sxA} {s : Nat} {t : Nat} : sxDf0 (q :: r) s t = (match Nat.beq q.1 s with
    | true => (match Nat.beq q.2.2 t with | true => some q.2.1 | false => sxDf0 r s t)
    | false => sxDf0 r s t) := rfl
theorem sxSf_ok : ∀ {A : sxA} {s t u : Nat} {a b : Int}, sxSf A s t = some u → (∀ q ∈ A, sxSm σ q) → σ[s]? = some a → σ[t]? = some b → σ[u]? = some (a + b)
  | [], _, _, _, _, _, h, _, _, _ => by cases h
  | q :: r, s, t, u, a, b, h, hA, hs, ht => by
    have ih := fun h => sxSf_ok (A := r) (u := u) h (fun q hq => hA q (List.mem_cons_of_mem _ hq)) hs ht
    rw [sxSf_c] at h
    split at h
    · rename_i e1
      split at h
      · rename_i e2
        cases h
        obtain ⟨z, x, y, h1, h2, h3, h4⟩ := hA q List.mem_cons_self
        rw [Nat.eq_of_beq_eq_true e1] at h2
        rw [Nat.eq_of_beq_eq_true e2] at h3
        cases Option.some.inj (hs.symm.trans h2)
        cases Option.some.inj (ht.symm.trans h3)
        rw [h1, h4]
      · exact ih h
    · exact ih h
theorem sxDf0_ok : ∀ {A : sxA} {s t u : Nat} {a b : Int}, sxDf0 A s t = some u → (∀ q ∈ A, sxSm σ q) → σ[s]? = some a → σ[t]? = some b → σ[u]? = some (a - b)
  | [], _, _, _, _, _, h, _, _, _ => by cases h
  | q :: r, s, t, u, a, b, h, hA, hs, ht => by
    have ih := fun h => sxDf0_ok (A := r) (u := u) h (fun q hq => hA q (List.mem_cons_of_mem _ hq)) hs ht
    rw [sxDf0_c] at h
    split at h
    · rename_i e1
      split at h
      · rename_i e2
        cases h
        obtain ⟨z, x, y, h1, h2, h3, h4⟩ := hA q List.mem_cons_self
        rw [Nat.eq_of_beq_eq_true e1] at h1
        rw [Nat.eq_of_beq_eq_true e2] at h3
        cases Option.some.inj (hs.symm.trans h1)
        cases Option.some.inj (ht.symm.trans h3)
        rw [h2]
        congr 1
        omega
      · exact ih h
    · exact ih h
/-- a + b, a - b of two symbols -/
def sxSum (B : sxB) (s t : Nat) (lo hi : Int) : sxB × sxN := match sxSf B.2.2.2.1 s t with
  | some u => (B, (u, 0))
  | none => iFc lo fun lo => iFc hi fun hi => match iEq lo hi with
  | true => (B, (0, lo))
  | false => bFc B.1 fun n => ((n + 1, (n, lo, hi) :: B.2.1, B.2.2.1, (n, s, t) :: B.2.2.2.1, B.2.2.2.2), (n, 0))
def sxDif (B : sxB) (s t : Nat) (lo hi : Int) : sxB × sxN := match sxDf0 B.2.2.2.1 s t with
  | some u => (B, (u, 0))
  | none => iFc lo fun lo => iFc hi fun hi => match iEq lo hi with
  | true => (B, (0, lo))
  | false => bFc B.1 fun n => ((n + 1, (n, lo, hi) :: B.2.1, B.2.2.1, (s, n, t) :: B.2.2.2.1, B.2.2.2.2), (n, 0))
theorem sxSum_ok {s t : Nat} {lo hi a b : Int} (hB : sxBR T σ B) (hs : σ[s]? = some a) (ht : σ[t]? = some b) (h1 : lo ≤ a + b) (h2 : a + b ≤ hi) : sxGive T σ (sxSum B s t lo hi) (a + b) := by
  unfold sxSum
  split
  · rename_i u hu
    exact ⟨σ, sxUp.rf, hB, _, sxSf_ok hu hB.2.2.2.1 hs ht, by simp⟩
  simp only [iFc_eq, bFc_eq]
  split
  · rename_i e
    have := iEq_ok e
    exact ⟨σ, sxUp.rf, hB, 0, hB.1.2, by dsimp only; omega⟩
  · have hu := sxUp.app σ [a + b]
    have hl : (σ ++ [a + b])[B.1]? = some (a + b) := by
      rw [← hB.1.1, List.getElem?_append_right (Nat.le_refl _), Nat.sub_self]
      rfl
    refine ⟨σ ++ [a + b], hu, ⟨⟨by rw [List.length_append, hB.1.1]; rfl, hu _ _ hB.1.2⟩, fun q hq => ?_, fun q hq => (hB.2.2.1 q hq).up hu, fun q hq => ?_, fun q hq => (hB.2.2.2.2 q hq).up hu⟩, a + b, hl, by simp⟩
    · rcases List.mem_cons.mp hq with rfl | hq
      · exact ⟨a + b, hl, h1, h2⟩
      · exact (hB.2.1 q hq).up hu
    · rcases List.mem_cons.mp hq with rfl | hq
      · exact ⟨a + b, a, b, hl, hu _ _ hs, hu _ _ ht, rfl⟩
      · exact (hB.2.2.2.1 q hq).up hu
theorem sxDif_ok {s t : Nat} {lo hi a b : Int} (hB : sxBR T σ B) (hs : σ[s]? = some a) (ht : σ[t]? = some b) (h1 : lo ≤ a - b) (h2 : a - b ≤ hi) : sxGive T σ (sxDif B s t lo hi) (a - b) := by
  unfold sxDif
  split
  · rename_i u hu
    exact ⟨σ, sxUp.rf, hB, _, sxDf0_ok hu hB.2.2.2.1 hs ht, by simp⟩
  simp only [iFc_eq, bFc_eq]
  split
  · rename_i e
    have := iEq_ok e
    exact ⟨σ, sxUp.rf, hB, 0, hB.1.2, by dsimp only; omega⟩
  · have hu := sxUp.app σ [a - b]
    have hl : (σ ++ [a - b])[B.1]? = some (a - b) := by
      rw [← hB.1.1, List.getElem?_append_right (Nat.le_refl _), Nat.sub_self]
      rfl
    refine ⟨σ ++ [a - b], hu, ⟨⟨by rw [List.length_append, hB.1.1]; rfl, hu _ _ hB.1.2⟩, fun q hq => ?_, fun q hq => (hB.2.2.1 q hq).up hu, fun q hq => ?_, fun q hq => (hB.2.2.2.2 q hq).up hu⟩, a - b, hl, by simp⟩
    · rcases List.mem_cons.mp hq with rfl | hq
      · exact ⟨a - b, hl, h1, h2⟩
      · exact (hB.2.1 q hq).up hu
    · rcases List.mem_cons.mp hq with rfl | hq
      · exact ⟨a, a - b, b, hu _ _ hs, hl, hu _ _ ht, by omega⟩
      · exact (hB.2.2.2.1 q hq).up hu
/-- two operands' bounds -/
def sxR2 (B : sxB) (x y : sxN) (f : Int × Int → Int × Int → Option (sxB × sxN)) : Option (sxB × sxN) := match sxRg B x with
  | some p => (match sxRg B y with
    | some q => f p q
    | none => none)
  | none => none
theorem sxR2_ok {f : Int × Int → Int × Int → Option (sxB × sxN)} (hB : sxBR T σ B) (h : sxR2 B x y f = some w) (hx : sxNR σ x X) (hy : sxNR σ y Y) : ∃ p q : Int × Int, f p q = some w ∧ (p.1 ≤ X ∧ X ≤ p.2) ∧ q.1 ≤ Y ∧ Y ≤ q.2 := by
  unfold sxR2 at h
  split at h
  · rename_i p hp
    split at h
    · rename_i q hq
      exact ⟨p, q, h, sxRg_ok hB hp hx, sxRg_ok hB hq hy⟩
    · cases h
  · cases h
def sxRm (m lo hi : Int) : Bool := match iLe (-m) lo with | true => iLe (hi + 1) m | false => false
theorem sxRm_ok {lo hi : Int} (h : sxRm m lo hi = true) : -m ≤ lo ∧ hi < m := by
  unfold sxRm at h
  split at h
  · rename_i e
    have h1 := iLe_ok e
    have h2 := iLe_ok h
    omega
  · cases h
def sxAdd (m : Int) (B : sxB) (x y : sxN) : Option (sxB × sxN) := sxR2 B x y fun p q => match sxRm m (p.1 + q.1) (p.2 + q.2) with
  | true => (match x.1 with
    | 0 => some (sxOff (B, y) x.2)
    | s + 1 => match y.1 with
      | 0 => some (sxOff (B, x) y.2)
      | t + 1 => some (sxOff (sxSum B (s + 1) (t + 1) (p.1 + q.1 - x.2 - y.2) (p.2 + q.2 - x.2 - y.2)) (x.2 + y.2)))
  | false => some (sxAny m B)
theorem sxN0 {c : Int} (hB : sxBR T σ B) (h : sxNR σ (0, c) X) : X = c := by
  obtain ⟨u, h1, h2⟩ := h
  cases Option.some.inj (h1.symm.trans hB.1.2)
  dsimp only at h2
  omega
theorem sxAdd_ok (hB : sxBR T σ B) (h : sxAdd m B x y = some w) (hx : sxNR σ x X) (hy : sxNR σ y Y) (hz : sxSp m (X + Y) z) : sxGive T σ w z := by
  have h0 := sxR2_ok hB h hx hy
  clear h
  obtain ⟨p, q, h, h1, h2⟩ := h0
  split at h
  · rename_i hr
    have hr := sxRm_ok hr
    have e := hz.1 (by omega) (by omega)
    rw [e]
    obtain ⟨s, cx⟩ := x
    obtain ⟨t, cy⟩ := y
    dsimp only at h
    split at h
    · cases h
      have := sxN0 hB hx
      have g := sxOff_ok (c := cx) (sxGive.keep hB hy)
      rw [show X + Y = Y + cx by omega]
      exact g
    · split at h
      · cases h
        have := sxN0 hB hy
        have g := sxOff_ok (c := cy) (sxGive.keep hB hx)
        rw [show X + Y = X + cy by omega]
        exact g
      · cases h
        obtain ⟨a, g1, g2⟩ := hx
        obtain ⟨b, g3, g4⟩ := hy
        dsimp only at g1 g2 g3 g4
        have g := sxOff_ok (c := cx + cy) (sxSum_ok (lo := p.1 + q.1 - cx - cy) (hi := p.2 + q.2 - cx - cy) hB g1 g3 (by omega) (by omega))
        rw [show X + Y = a + b + (cx + cy) by omega]
        exact g
  · cases h
    exact sxAny_ok hB hz.2.1 hz.2.2
/-- a difference's bound, by what is known, where facts are on -/
def sxEb (l_ : sxE) : Nat → Nat → Int → Int := @List.rec _ (fun _ => Nat → Nat → Int → Int) (fun _ _ h => h) (fun q _ ih s t h => match Nat.beq q.1 s with
    | true => (match Nat.beq q.2.1 t with | true => iMin q.2.2 (ih s t h) | false => ih s t h)
    | false => ih s t h) l_
theorem sxEb_c {q : Nat × Nat × Int} {r : sxE} {s : Nat} {t : Nat} {h : Int} : sxEb (q :: r) s t h = (match Nat.beq q.1 s with
    | true => (match Nat.beq q.2.1 t with | true => iMin q.2.2 (sxEb r s t h) | false => sxEb r s t h)
    | false => sxEb r s t h) := rfl
def sxEc (B : sxB) (s t : Nat) (h : Int) : Int := match B.2.2.2.2 with
  | [] => h
  | _ :: _ => sxEb B.2.2.1 s t h
theorem sxEb_ok {s t : Nat} {a b : Int} (hs : σ[s]? = some a) (ht : σ[t]? = some b) : ∀ {E : sxE} {h : Int}, (∀ q ∈ E, sxDf σ q) → a - b ≤ h → a - b ≤ sxEb E s t h
  | [], _, _, h => h
  | q :: r, h, hE, hh => by
    have ih := sxEb_ok hs ht (E := r) (h := h) (fun q hq => hE q (List.mem_cons_of_mem _ hq)) hh
    rw [sxEb_c]
    split
    · rename_i h1
      split
      · rename_i h2
        obtain ⟨x, y, e1, e2, e3⟩ := hE q List.mem_cons_self
        rw [Nat.eq_of_beq_eq_true h1] at e1
        rw [Nat.eq_of_beq_eq_true h2] at e2
        cases Option.some.inj (e1.symm.trans hs)
        cases Option.some.inj (e2.symm.trans ht)
        exact iMin_le e3 ih
      · exact ih
    · exact ih
theorem sxEc_ok {s t : Nat} {a b h : Int} (hB : sxBR T σ B) (hs : σ[s]? = some a) (ht : σ[t]? = some b) (hh : a - b ≤ h) : a - b ≤ sxEc B s t h := by
  unfold sxEc
  split
  · exact hh
  · exact sxEb_ok hs ht hB.2.2.1 hh
def sxSub (m : Int) (B : sxB) (x y : sxN) : Option (sxB × sxN) := sxR2 B x y fun p q => match Nat.beq x.1 y.1 with
  | true => (match sxRm m (x.2 - y.2) (x.2 - y.2) with
    | true => some (sxOff (B, (0, 0)) (x.2 - y.2))
    | false => some (sxAny m B))
  | false => match sxRm m (p.1 - q.2) (p.2 - q.1) with
    | true => (match y.1 with
      | 0 => some (sxOff (B, x) (-y.2))
      | t + 1 => some (sxOff (sxDif B x.1 (t + 1) (-(sxEc B (t + 1) x.1 (-(p.1 - q.2 - x.2 + y.2)))) (sxEc B x.1 (t + 1) (p.2 - q.1 - x.2 + y.2))) (x.2 - y.2)))
    | false => some (sxAny m B)
theorem sxSub_ok (hB : sxBR T σ B) (h : sxSub m B x y = some w) (hx : sxNR σ x X) (hy : sxNR σ y Y) (hz : sxSp m (X - Y) z) : sxGive T σ w z := by
  have h0 := sxR2_ok hB h hx hy
  clear h
  obtain ⟨p, q, h, h1, h2⟩ := h0
  obtain ⟨s, cx⟩ := x
  obtain ⟨t, cy⟩ := y
  dsimp only at h
  split at h
  · rename_i hb
    have hb := Nat.eq_of_beq_eq_true hb
    subst hb
    obtain ⟨a, g1, g2⟩ := hx
    obtain ⟨b, g3, g4⟩ := hy
    dsimp only at g1 g2 g3 g4
    cases Option.some.inj (g1.symm.trans g3)
    split at h
    · rename_i hr
      have hr := sxRm_ok hr
      cases h
      rw [hz.1 (by omega) (by omega), show X - Y = 0 + (cx - cy) by omega]
      exact sxOff_ok (sxGive.keep hB ⟨0, hB.1.2, by simp⟩)
    · cases h
      exact sxAny_ok hB hz.2.1 hz.2.2
  · split at h
    · rename_i hr
      have hr := sxRm_ok hr
      have e := hz.1 (by omega) (by omega)
      rw [e]
      split at h
      · cases h
        have := sxN0 hB hy
        have g := sxOff_ok (c := -cy) (sxGive.keep hB hx)
        rw [show X - Y = X + -cy by omega]
        exact g
      · rename_i r _
        cases h
        obtain ⟨a, g1, g2⟩ := hx
        obtain ⟨b, g3, g4⟩ := hy
        dsimp only at g1 g2 g3 g4
        have g := sxOff_ok (c := cx - cy) (sxDif_ok (lo := -(sxEc B r.succ s (-(p.1 - q.2 - cx + cy)))) hB g1 g3 (by have := sxEc_ok (h := -(p.1 - q.2 - cx + cy)) hB g3 g1 (by omega); omega) (sxEc_ok (h := p.2 - q.1 - cx + cy) hB g1 g3 (by omega)))
        rw [show X - Y = a - b + (cx - cy) by omega]
        exact g
    · cases h
      exact sxAny_ok hB hz.2.1 hz.2.2
theorem mul_mono {a b c d : Int} (h1 : 0 ≤ a) (h2 : a ≤ b) (h3 : 0 ≤ c) (h4 : c ≤ d) : a * c ≤ b * d := Int.mul_le_mul h2 h4 h3 (Int.le_trans h1 h2)
def sxMul (m : Int) (B : sxB) (x y : sxN) : Option (sxB × sxN) := sxR2 B x y fun p q => match iLe 0 p.1 with
  | true => (match iLe 0 q.1 with
    | true => (match iLe (p.2 * q.2 + 1) m with
      | true => (match Nat.beq x.1 0 with
        | true => (match iEq x.2 2 with
          | true => some (sxOff (sxSum B y.1 y.1 (q.1 + q.1 - y.2 - y.2) (q.2 + q.2 - y.2 - y.2)) (y.2 + y.2))
          | false => some (sxFr B (p.1 * q.1) (p.2 * q.2)))
        | false => some (sxFr B (p.1 * q.1) (p.2 * q.2)))
      | false => some (sxAny m B))
    | false => some (sxAny m B))
  | false => some (sxAny m B)
theorem sxMul_ok (hm : 0 < m) (hB : sxBR T σ B) (h : sxMul m B x y = some w) (hx : sxNR σ x X) (hy : sxNR σ y Y) (hz : sxSp m (X * Y) z) : sxGive T σ w z := by
  have h0 := sxR2_ok hB h hx hy
  clear h
  obtain ⟨p, q, h, h1, h2⟩ := h0
  split at h
  · rename_i e1
    have e1 := iLe_ok e1
    split at h
    · rename_i e2
      have e2 := iLe_ok e2
      split at h
      · rename_i e3
        have e3 := iLe_ok e3
        have k1 : p.1 * q.1 ≤ X * Y := mul_mono e1 h1.1 e2 h2.1
        have k2 : X * Y ≤ p.2 * q.2 := mul_mono (by omega) h1.2 (by omega) h2.2
        have k3 : 0 ≤ p.1 * q.1 := Int.mul_nonneg e1 e2
        have e := hz.1 (by omega) (by omega)
        rw [e]
        split at h
        · rename_i hb
          split at h
          · rename_i h2'
            cases h
            have hX : X = 2 := by
              obtain ⟨u, g1, g2⟩ := hx
              rw [Nat.eq_of_beq_eq_true hb] at g1
              cases Option.some.inj (g1.symm.trans hB.1.2)
              rw [iEq_ok h2'] at g2
              omega
            obtain ⟨b, g3, g4⟩ := hy
            have g := sxOff_ok (c := y.2 + y.2) (sxSum_ok (lo := q.1 + q.1 - y.2 - y.2) (hi := q.2 + q.2 - y.2 - y.2) hB g3 g3 (by omega) (by omega))
            rw [hX, show 2 * Y = b + b + (y.2 + y.2) by omega]
            exact g
          · cases h
            exact sxFr_ok hB k1 k2
        · cases h
          exact sxFr_ok hB k1 k2
      · cases h
        exact sxAny_ok hB hz.2.1 hz.2.2
    · cases h
      exact sxAny_ok hB hz.2.1 hz.2.2
  · cases h
    exact sxAny_ok hB hz.2.1 hz.2.2
def sxAnd (m : Int) (B : sxB) (x y : sxN) : Option (sxB × sxN) := sxR2 B x y fun p q => match iLe 0 q.1 with
  | true => (match iLe 0 p.1 with
    | true => some (sxFr B 0 (iMin p.2 q.2))
    | false => some (sxFr B 0 q.2))
  | false => match iLe 0 p.1 with
    | true => some (sxFr B 0 p.2)
    | false => some (sxAny m B)
theorem sxAnd_ok (hB : sxBR T σ B) (h : sxAnd m B x y = some w) (hx : sxNR σ x X) (hy : sxNR σ y Y) (hz : sxSpN m X Y z) : sxGive T σ w z := by
  have h0 := sxR2_ok hB h hx hy
  clear h
  obtain ⟨p, q, h, h1, h2⟩ := h0
  obtain ⟨⟨z1, z2⟩, z3, z4⟩ := hz
  split at h
  · rename_i e1
    have e1 := iLe_ok e1
    have y1 := z1 (by omega)
    split at h
    · rename_i e2
      have e2 := iLe_ok e2
      have y2 := z2 (by omega)
      cases h
      exact sxFr_ok hB y1.1 (iMin_le (by omega) (by omega))
    · cases h
      exact sxFr_ok hB y1.1 (by omega)
  · split at h
    · rename_i e2
      have e2 := iLe_ok e2
      have y2 := z2 (by omega)
      cases h
      exact sxFr_ok hB y2.1 (by omega)
    · cases h
      exact sxAny_ok hB z3 z4
def sxTop (a b : Int) : Int := .ofNat (2 ^ (Nat.log2 (Nat.lor a.toNat b.toNat) + 1) - 1)
def sxOr (m : Int) (B : sxB) (x y : sxN) : Option (sxB × sxN) := sxR2 B x y fun p q => match iLe 0 p.1 with
  | true => (match iLe 0 q.1 with
    | true => some (sxFr B 0 (sxTop p.2 q.2))
    | false => some (sxAny m B))
  | false => some (sxAny m B)
theorem sxOr_ok (hB : sxBR T σ B) (h : sxOr m B x y = some w) (hx : sxNR σ x X) (hy : sxNR σ y Y) (hz : sxSpO m X Y z) : sxGive T σ w z := by
  have h0 := sxR2_ok hB h hx hy
  clear h
  obtain ⟨p, q, h, h1, h2⟩ := h0
  obtain ⟨z1, z3, z4⟩ := hz
  split at h
  · rename_i e1
    have e1 := iLe_ok e1
    split at h
    · rename_i e2
      have e2 := iLe_ok e2
      cases h
      obtain ⟨y1, y2⟩ := z1 (by omega) (by omega)
      have a1 : p.2.toNat ≤ Nat.lor p.2.toNat q.2.toNat := Nat.left_le_or
      have a2 : q.2.toNat ≤ Nat.lor p.2.toNat q.2.toNat := Nat.right_le_or
      have a3 : Nat.lor p.2.toNat q.2.toNat < 2 ^ (Nat.log2 (Nat.lor p.2.toNat q.2.toNat) + 1) := Nat.lt_log2_self
      have y3 := y2 (Nat.log2 (Nat.lor p.2.toNat q.2.toNat) + 1) (by omega) (by omega)
      refine sxFr_ok hB y1 ?_
      unfold sxTop
      generalize 2 ^ (Nat.log2 (Nat.lor p.2.toNat q.2.toNat) + 1) = t at *
      show z ≤ ((t - 1 : Nat) : Int)
      omega
    · cases h
      exact sxAny_ok hB z3 z4
  · cases h
    exact sxAny_ok hB z3 z4
def iP2 (y : Int) : Int := .ofNat (2 ^ y.toNat)
def sxShl (m k : Int) (B : sxB) (x y : sxN) : Option (sxB × sxN) := sxR2 B x y fun p q => match iLe 0 p.1 with
  | true => (match iLe 0 q.1 with
    | true => (match iLe (q.2 + 1) k with
      | true => (match iLe (p.2 * iP2 q.2 + 1) m with
        | true => some (sxFr B (p.1 * iP2 q.1) (p.2 * iP2 q.2))
        | false => some (sxAny m B))
      | false => some (sxAny m B))
    | false => some (sxAny m B))
  | false => some (sxAny m B)
theorem iP2_mono {a b : Int} (h : a ≤ b) : iP2 a ≤ iP2 b := by
  unfold iP2
  exact Int.ofNat_le.mpr (Nat.pow_le_pow_right (by decide) (by omega))
theorem iP2_nn (a : Int) : 0 ≤ iP2 a := Int.natCast_nonneg _
theorem sxShl_ok {k : Int} (hB : sxBR T σ B) (h : sxShl m k B x y = some w) (hx : sxNR σ x X) (hy : sxNR σ y Y) (hz : sxSpL m k X Y z) : sxGive T σ w z := by
  have h0 := sxR2_ok hB h hx hy
  clear h
  obtain ⟨p, q, h, h1, h2⟩ := h0
  obtain ⟨z1, z3, z4⟩ := hz
  split at h
  · rename_i e1
    have e1 := iLe_ok e1
    split at h
    · rename_i e2
      have e2 := iLe_ok e2
      split at h
      · rename_i e3
        have e3 := iLe_ok e3
        split at h
        · rename_i e4
          have e4 := iLe_ok e4
          cases h
          have k1 : p.1 * iP2 q.1 ≤ X * iP2 Y := mul_mono e1 h1.1 (iP2_nn _) (iP2_mono h2.1)
          have k2 : X * iP2 Y ≤ p.2 * iP2 q.2 := mul_mono (by omega) h1.2 (iP2_nn _) (iP2_mono h2.2)
          have e : z = X * iP2 Y := z1 (by omega) (by omega) (by omega) (show X * iP2 Y < m by omega)
          rw [e]
          exact sxFr_ok hB k1 k2
        · cases h
          exact sxAny_ok hB z3 z4
      · cases h
        exact sxAny_ok hB z3 z4
    · cases h
      exact sxAny_ok hB z3 z4
  · cases h
    exact sxAny_ok hB z3 z4
def sxShr (m k : Int) (B : sxB) (x y : sxN) : Option (sxB × sxN) := sxR2 B x y fun p q => match iLe 0 p.1 with
  | true => (match y.1 with
    | 0 => (match iLe 0 y.2 with
      | true => (match iLe (y.2 + 1) k with
        | true => some (sxFr B (p.1 / iP2 y.2) (p.2 / iP2 y.2))
        | false => some (sxFr B 0 p.2))
      | false => some (sxFr B 0 p.2))
    | _ + 1 => some (sxFr B 0 p.2))
  | false => some (sxAny m B)
theorem sxShr_ok {k : Int} (hB : sxBR T σ B) (h : sxShr m k B x y = some w) (hx : sxNR σ x X) (hy : sxNR σ y Y) (hz : sxSpR m k X Y z) : sxGive T σ w z := by
  have h0 := sxR2_ok hB h hx hy
  clear h
  obtain ⟨p, q, h, h1, h2⟩ := h0
  obtain ⟨z1, z3, z4⟩ := hz
  split at h
  · rename_i e1
    have e1 := iLe_ok e1
    obtain ⟨y1, y2⟩ := z1 (by omega)
    have d : sxGive T σ (sxFr B 0 p.2) z := sxFr_ok hB y1.1 (by omega)
    obtain ⟨t, cy⟩ := y
    dsimp only at h
    split at h
    · have hY := sxN0 hB hy
      split at h
      · rename_i e2
        have e2 := iLe_ok e2
        split at h
        · rename_i e3
          have e3 := iLe_ok e3
          cases h
          have e : z = X / iP2 Y := y2 (by omega) (by omega)
          rw [e, hY]
          exact sxFr_ok hB (Int.ediv_le_ediv (by unfold iP2; exact Int.natCast_pos.mpr (Nat.pow_pos (by decide))) h1.1) (Int.ediv_le_ediv (by unfold iP2; exact Int.natCast_pos.mpr (Nat.pow_pos (by decide))) h1.2)
        · cases h
          exact d
      · cases h
        exact d
    · cases h
      exact d
  · cases h
    exact sxAny_ok hB z3 z4
def sxRem (B : sxB) (x y : sxN) : Option (sxB × sxN) := sxR2 B x y fun p q => match iLe 1 q.1 with
  | true => (match iLe 0 p.1 with
    | true => (match iEq p.1 p.2 with
      | true => (match iEq q.1 q.2 with
        | true => some (sxFr B (p.1 % q.1) (p.1 % q.1))
        | false => some (sxFr B 0 (iMin p.2 (q.2 - 1))))
      | false => some (sxFr B 0 (iMin p.2 (q.2 - 1))))
    | false => some (sxFr B (1 - q.2) (q.2 - 1)))
  | false => none
theorem sxRem_ok (hB : sxBR T σ B) (h : sxRem B x y = some w) (hx : sxNR σ x X) (hy : sxNR σ y Y) (hz : sxSpM X Y z) : 0 < Y ∧ sxGive T σ w z := by
  have h0 := sxR2_ok hB h hx hy
  clear h
  obtain ⟨p, q, h, h1, h2⟩ := h0
  split at h
  · rename_i e1
    have e1 := iLe_ok e1
    obtain ⟨y1, y2⟩ := hz (by omega)
    refine ⟨by omega, ?_⟩
    split at h
    · rename_i e2
      have e2 := iLe_ok e2
      obtain ⟨y3, y4⟩ := y2 (by omega)
      have d := sxFr_ok (lo := 0) (hi := iMin p.2 (q.2 - 1)) hB y3.1 (iMin_le (by omega) (by omega))
      split at h
      · rename_i e3
        have e3 := iEq_ok e3
        split at h
        · rename_i e4
          have e4 := iEq_ok e4
          have e5 : X = p.1 := by omega
          have e6 : Y = q.1 := by omega
          cases h
          rw [e5, e6] at y4
          exact sxFr_ok hB (by omega) (by omega)
        · cases h
          exact d
      · cases h
        exact d
    · cases h
      exact sxFr_ok hB (by omega) (by omega)
  · cases h
/-- narrowing -/
def sxNar (lo hi : Int) (B : sxB) (x : sxN) : Option (sxB × sxN) := match sxRg B x with
  | some p => (match iLe lo p.1 with
    | true => (match iLe p.2 hi with
      | true => some (B, x)
      | false => some (sxFr B lo hi))
    | false => some (sxFr B lo hi))
  | none => none
theorem sxNar_ok {lo hi : Int} (hB : sxBR T σ B) (h : sxNar lo hi B x = some w) (hx : sxNR σ x X) (hz : lo ≤ X → X ≤ hi → z = X) (h1 : lo ≤ z) (h2 : z ≤ hi) : sxGive T σ w z := by
  unfold sxNar at h
  split at h
  · rename_i p hp
    have hX := sxRg_ok hB hp hx
    split at h
    · rename_i e1
      have e1 := iLe_ok e1
      split at h
      · rename_i e2
        have e2 := iLe_ok e2
        cases h
        rw [hz (by omega) (by omega)]
        exact sxGive.keep hB hx
      · cases h
        exact sxFr_ok hB h1 h2
    · cases h
      exact sxFr_ok hB h1 h2
  · cases h
/-- is it the same number? -/
def sxSame (x y : sxN) : Bool := match Nat.beq x.1 y.1 with | true => iEq x.2 y.2 | false => false
/-- a symbol that is one number -/
def sxNm (B : sxB) (n : sxN) : sxN := match Nat.beq n.1 0 with
  | true => n
  | false => match sxRgS B n.1 with
    | some p => (match iEq p.1 p.2 with | true => (0, p.1 + n.2) | false => n)
    | none => n
theorem sxNm_ok (hB : sxBR T σ B) (h : sxNR σ x X) : sxNR σ (sxNm B x) X := by
  unfold sxNm
  split
  · exact h
  · split
    · rename_i p hp
      split
      · rename_i e
        have e := iEq_ok e
        obtain ⟨u, h1, h2⟩ := h
        obtain ⟨z, h3, h4, h5⟩ := sxRgS_ok hB hp
        cases Option.some.inj (h1.symm.trans h3)
        exact ⟨0, hB.1.2, by dsimp only; omega⟩
      · exact h
    · exact h
/-- known to be the same number -/
def sxEqv (B : sxB) (x y : sxN) : Bool := (fun z => match Nat.beq z.1 y.1 with
  | true => iEq z.2 y.2
  | false => match sxLe B x y 0 with
    | true => sxLe B y x 0
    | false => false) (sxNm B x)
/-- a fact that stands there already -/
def sxFlS (B : sxB) (F : sxF) (o : Nat) (x y : sxN) : Option sxN := @List.rec (Nat × sxN × sxN × sxN) (fun _ => Option sxN) none (fun q _ ih => @Bool.rec (fun _ => Option sxN) ih (@Bool.rec (fun _ => Option sxN) ih (@Bool.rec (fun _ => Option sxN) ih (some q.2.2.2) (sxEqv B q.2.2.1 y)) (sxEqv B q.2.1 x)) (Nat.beq q.1 o)) F
theorem sxSame_ok {x y : sxN} (h : sxSame x y = true) : x = y := by
  unfold sxSame at h
  split at h
  · rename_i h1
    exact Prod.ext (Nat.eq_of_beq_eq_true h1) (iEq_ok h)
  · cases h
theorem sxEqv_ok (hB : sxBR T σ B) (h : sxEqv B x y = true) (hx : sxNR σ x X) (hy : sxNR σ y Y) : X = Y := by
  unfold sxEqv at h
  dsimp only at h
  split at h
  · rename_i e
    have h1 := sxNm_ok hB hx
    rw [show sxNm B x = y from Prod.ext (Nat.eq_of_beq_eq_true e) (iEq_ok h)] at h1
    exact sxNR.un h1 hy
  · split at h
    · rename_i e
      have h1 := sxLe_ok hB e hx hy
      have h2 := sxLe_ok hB h hy hx
      omega
    · cases h
theorem sxFlS_cons (B : sxB) (q : Nat × sxN × sxN × sxN) (r : sxF) (o : Nat) (x y : sxN) : sxFlS B (q :: r) o x y = match Nat.beq q.1 o with
    | true => (match sxEqv B q.2.1 x with
      | true => (match sxEqv B q.2.2.1 y with | true => some q.2.2.2 | false => sxFlS B r o x y)
      | false => sxFlS B r o x y)
    | false => sxFlS B r o x y := by
  show @Bool.rec (fun _ => Option sxN) (sxFlS B r o x y) (@Bool.rec (fun _ => Option sxN) (sxFlS B r o x y) (@Bool.rec (fun _ => Option sxN) (sxFlS B r o x y) (some q.2.2.2) (sxEqv B q.2.2.1 y)) (sxEqv B q.2.1 x)) (Nat.beq q.1 o) = _
  cases Nat.beq q.1 o <;> cases sxEqv B q.2.1 x <;> cases sxEqv B q.2.2.1 y <;> rfl
theorem sxFlS_ok {o : Nat} {t : sxN} (hB : sxBR T σ B) : ∀ {F : sxF}, sxFlS B F o x y = some t → (∀ q ∈ F, sxFt T σ q) → sxNR σ x X → sxNR σ y Y → sxNR σ t (sxSem T o X Y)
  | [], h, _, _, _ => by cases h
  | q :: r, h, hF, hx, hy => by
    have hr : ∀ q ∈ r, sxFt T σ q := fun q hq => hF q (List.mem_cons_of_mem _ hq)
    rw [sxFlS_cons] at h
    split at h
    · rename_i h1
      split at h
      · rename_i h2
        split at h
        · rename_i h3
          cases h
          obtain ⟨a, b, z, e1, e2, e3, e4⟩ := hF q List.mem_cons_self
          cases sxEqv_ok hB h2 e1 hx
          cases sxEqv_ok hB h3 e2 hy
          rw [← Nat.eq_of_beq_eq_true h1, e4]
          exact e3
        · exact sxFlS_ok hB h hr hx hy
      · exact sxFlS_ok hB h hr hx hy
    · exact sxFlS_ok hB h hr hx hy
/-- the facts of an operation; what is known without facts; a look-up that is remembered -/
def sxFo (F : sxF) (o : Nat) : sxF := @List.rec (Nat × sxN × sxN × sxN) (fun _ => sxF) [] (fun q _ ih => @Bool.rec (fun _ => sxF) (@List.rec (Nat × sxN × sxN × sxN) (fun _ => sxF) [] (fun a_ l_ _ => a_ :: l_) ih) (q :: ih) (Nat.beq q.1 o)) F
theorem sxFo_sub : ∀ {F : sxF} {o : Nat} {q : Nat × sxN × sxN × sxN}, q ∈ sxFo F o → q ∈ F
  | [], _, _, h => absurd h List.not_mem_nil
  | q0 :: r, o, q, h => by
    have h : q ∈ @Bool.rec (fun _ => sxF) (lMm (sxFo r o)) (q0 :: sxFo r o) (Nat.beq q0.1 o) := h
    rw [lMm_eq] at h
    cases hb : Nat.beq q0.1 o with
    | true =>
      rw [hb] at h
      rcases List.mem_cons.mp (show q ∈ q0 :: sxFo r o from h) with h | h
      · exact h ▸ List.mem_cons_self
      · exact List.mem_cons_of_mem _ (sxFo_sub h)
    | false =>
      rw [hb] at h
      exact List.mem_cons_of_mem _ (sxFo_sub (show q ∈ sxFo r o from h))
def sxBf {α : Type} (B : sxB) (f : sxB → α) : α := match B with
  | (N, D, E, _, _) => bFc N fun N => lFc D fun D => lFc E fun E => f (N, D, E, [], [])
theorem sxBf_eq {α : Type} (B : sxB) (f : sxB → α) : sxBf B f = f (B.1, B.2.1, B.2.2.1, [], []) := by
  obtain ⟨N, D, E, A, F⟩ := B
  show (bFc N fun N => lFc D fun D => lFc E fun E => f (N, D, E, [], [])) = f (N, D, E, [], [])
  rw [bFc_eq, lFc_eq, lFc_eq]
theorem sxBf_ok (hB : sxBR T σ B) : sxBR T σ (B.1, B.2.1, B.2.2.1, [], []) := ⟨hB.1, hB.2.1, hB.2.2.1, fun _ h => absurd h List.not_mem_nil, fun _ h => absurd h List.not_mem_nil⟩
def sxFl (B : sxB) (F : sxF) (o : Nat) (x y : sxN) : Option sxN := bFc o fun o => nFc x fun x => nFc y fun y => lFc F fun F => sxBf B fun B => oMm (sxFlS B (sxFo F o) o x y)
theorem sxFl_ok {o : Nat} {t : sxN} (hB : sxBR T σ B) {F : sxF} (h : sxFl B F o x y = some t) (hF : ∀ q ∈ F, sxFt T σ q) (hx : sxNR σ x X) (hy : sxNR σ y Y) : sxNR σ t (sxSem T o X Y) := by
  unfold sxFl at h
  rw [bFc_eq, nFc_eq, nFc_eq, lFc_eq, sxBf_eq, oMm_eq] at h
  exact sxFlS_ok (sxBf_ok hB) h (fun q hq => hF q (sxFo_sub hq)) hx hy
/-- a fact more -/
def sxFa (B : sxB) (o : Nat) (x y t : sxN) : sxB := (B.1, B.2.1, B.2.2.1, B.2.2.2.1, (o, x, y, t) :: B.2.2.2.2)
theorem sxFa_ok {o : Nat} {t : sxN} (hB : sxBR T σ B) (hx : sxNR σ x X) (hy : sxNR σ y Y) (ht : sxNR σ t (sxSem T o X Y)) : sxBR T σ (sxFa B o x y t) := by
  refine ⟨hB.1, hB.2.1, hB.2.2.1, hB.2.2.2.1, fun p hp => ?_⟩
  rcases List.mem_cons.mp hp with rfl | hp
  · exact ⟨X, Y, _, hx, hy, ht, rfl⟩
  · exact hB.2.2.2.2 p hp
/-- operations that ask for no text -/
def sxCo (o : Nat) : Bool := match Nat.blt o 21 with
  | true => true
  | false => match Nat.blt 50 o with
    | true => Nat.blt o 56
    | false => false
theorem sem_T {T T' o : Nat} {a b : Int} (h : sxCo o = true) : sxSem T o a b = sxSem T' o a b := by
  have h1 : o < 21 ∨ (50 < o ∧ o < 56) := by
    unfold sxCo at h
    split at h
    · rename_i e
      exact Or.inl (Nat.le_of_ble_eq_true e)
    · split at h
      · rename_i e
        exact Or.inr ⟨Nat.le_of_ble_eq_true e, Nat.le_of_ble_eq_true h⟩
      · cases h
  have h2 : o = 0 ∨ o = 1 ∨ o = 2 ∨ o = 3 ∨ o = 4 ∨ o = 5 ∨ o = 6 ∨ o = 7 ∨ o = 8 ∨ o = 9 ∨ o = 10 ∨ o = 11 ∨ o = 12 ∨ o = 13 ∨ o = 14 ∨ o = 15 ∨ o = 16 ∨ o = 17 ∨ o = 18 ∨ o = 19 ∨ o = 20 ∨ o = 51 ∨ o = 52 ∨ o = 53 ∨ o = 54 ∨ o = 55 := by omega
  rcases h2 with rfl | rfl | rfl | rfl | rfl | rfl | rfl | rfl | rfl | rfl | rfl | rfl | rfl | rfl | rfl | rfl | rfl | rfl | rfl | rfl | rfl | rfl | rfl | rfl | rfl | rfl <;> simp only [sxSem]
/-- of numbers: reckoned out -/
def sxCst (o : Nat) (x y : sxN) : Option Int := match Nat.beq x.1 0 with
  | false => none
  | true => match Nat.beq y.1 0 with
    | false => none
    | true => match sxCo o with
      | false => none
      | true => some (sxSem 0 o x.2 y.2)
theorem sxCst_ok {o : Nat} {v : Int} (hB : sxBR T σ B) (h : sxCst o x y = some v) (hx : sxNR σ x X) (hy : sxNR σ y Y) : sxSem T o X Y = v := by
  unfold sxCst at h
  split at h
  · cases h
  · rename_i e1
    split at h
    · cases h
    · rename_i e2
      split at h
      · cases h
      · rename_i e3
        cases h
        rw [show x = (0, x.2) from Prod.ext (Nat.eq_of_beq_eq_true e1) rfl] at hx
        rw [show y = (0, y.2) from Prod.ext (Nat.eq_of_beq_eq_true e2) rfl] at hy
        have h1 := sxN0 hB hx
        have h2 := sxN0 hB hy
        rw [h1, h2]
        exact sem_T e3
/-- operations that go both ways -/
def sxCm (o : Nat) : Bool := match Nat.blt o 12 with
  | true => false
  | false => Nat.blt o 15
theorem sem_cm {o : Nat} {a b : Int} (h : sxCm o = true) : sxSem T o a b = sxSem T o b a := by
  have h1 : ¬ o < 12 ∧ o < 15 := by
    unfold sxCm at h
    split at h
    · cases h
    · rename_i e
      refine ⟨fun q => ?_, Nat.le_of_ble_eq_true h⟩
      have : Nat.blt o 12 = true := Nat.ble_eq.mpr q
      rw [this] at e
      cases e
  have h2 : o = 12 ∨ o = 13 ∨ o = 14 := by omega
  rcases h2 with rfl | rfl | rfl
  · show (Int64.ofInt a &&& Int64.ofInt b).toInt = (Int64.ofInt b &&& Int64.ofInt a).toInt
    rw [Int64.and_comm]
  · show (Int64.ofInt a ||| Int64.ofInt b).toInt = (Int64.ofInt b ||| Int64.ofInt a).toInt
    rw [Int64.or_comm]
  · show (Int64.ofInt a ^^^ Int64.ofInt b).toInt = (Int64.ofInt b ^^^ Int64.ofInt a).toInt
    rw [Int64.xor_comm]
/-- an operation that is remembered, where facts are on -/
def sxRem1 (o : Nat) (g : sxB → sxN → sxN → Option (sxB × sxN)) : sxB → sxN → sxN → Option (sxB × sxN) := fun B x y => match B.2.2.2.2 with
  | [] => g B x y
  | _ :: _ => nFc (sxNm B x) fun x1 => nFc (sxNm B y) fun y1 => match sxCst o x1 y1 with
    | some v => iFc v fun v => some (B, (0, v))
    | none => match sxFl B B.2.2.2.2 o x1 y1 with
      | some t => some (B, t)
      | none => match (match sxCm o with | true => sxFl B B.2.2.2.2 o y1 x1 | false => none) with
        | some t => some (B, t)
        | none => match g B x y with
          | some w => some (sxFa w.1 o x y w.2, w.2)
          | none => none
theorem sxRem1_ok {o : Nat} {g : sxB → sxN → sxN → Option (sxB × sxN)} (hB : sxBR T σ B) (h : sxRem1 o g B x y = some w) (hx : sxNR σ x X) (hy : sxNR σ y Y) (hs : sxSem T o X Y = z) (hg : ∀ w, g B x y = some w → sxGive T σ w z) : sxGive T σ w z := by
  unfold sxRem1 at h
  split at h
  · exact hg w h
  · rw [nFc_eq, nFc_eq] at h
    split at h
    · rename_i v hv
      rw [iFc_eq] at h
      cases h
      rw [← hs, sxCst_ok hB hv (sxNm_ok hB hx) (sxNm_ok hB hy)]
      exact ⟨σ, sxUp.rf, hB, ⟨0, hB.1.2, by simp⟩⟩
    · split at h
      · rename_i t ht
        cases h
        rw [← hs]
        exact ⟨σ, sxUp.rf, hB, sxFl_ok hB ht hB.2.2.2.2 (sxNm_ok hB hx) (sxNm_ok hB hy)⟩
      · split at h
        · rename_i t ht
          cases h
          split at ht
          · rename_i e
            rw [← hs, sem_cm e]
            exact ⟨σ, sxUp.rf, hB, sxFl_ok hB ht hB.2.2.2.2 (sxNm_ok hB hy) (sxNm_ok hB hx)⟩
          · cases ht
        · split at h
          · rename_i w1 hw1
            cases h
            obtain ⟨σ', g1, g2, g3⟩ := hg w1 hw1
            exact ⟨σ', g1, sxFa_ok g2 (hx.up g1) (hy.up g1) (by rw [hs]; exact g3), g3⟩
          · cases h
/-- sums of two that are not known -/
def sxRem2 (o : Nat) (g : sxB → sxN → sxN → Option (sxB × sxN)) : sxB → sxN → sxN → Option (sxB × sxN) := fun B x y => match Nat.beq (sxNm B x).1 0 with
  | true => g B x y
  | false => match Nat.beq (sxNm B y).1 0 with
    | true => g B x y
    | false => sxRem1 o g B x y
theorem sxRem2_ok {o : Nat} {g : sxB → sxN → sxN → Option (sxB × sxN)} (hB : sxBR T σ B) (h : sxRem2 o g B x y = some w) (hx : sxNR σ x X) (hy : sxNR σ y Y) (hs : sxSem T o X Y = z) (hg : ∀ w, g B x y = some w → sxGive T σ w z) : sxGive T σ w z := by
  unfold sxRem2 at h
  split at h
  · exact hg w h
  · split at h
    · exact hg w h
    · exact sxRem1_ok hB h hx hy hs hg
/-- a sum that can't wrap -/
def sxSafe (m : Int) (B : sxB) (x y : sxN) : Bool := match sxRg B x with
  | some p => (match sxRg B y with
    | some q => sxRm m (p.1 + q.1) (p.2 + q.2)
    | none => true)
  | none => true
/-- a sum with a number is remembered where it may wrap -/
def sxRemI (m : Int) (o : Nat) (g : sxB → sxN → sxN → Option (sxB × sxN)) : sxB → sxN → sxN → Option (sxB × sxN) := fun B x y => match (match Nat.beq (sxNm B x).1 0 with | true => true | false => Nat.beq (sxNm B y).1 0) with
  | true => (match sxSafe m B x y with
    | true => g B x y
    | false => sxRem1 o g B x y)
  | false => sxRem1 o g B x y
theorem sxRemI_ok {o : Nat} {g : sxB → sxN → sxN → Option (sxB × sxN)} (hB : sxBR T σ B) (h : sxRemI m o g B x y = some w) (hx : sxNR σ x X) (hy : sxNR σ y Y) (hs : sxSem T o X Y = z) (hg : ∀ w, g B x y = some w → sxGive T σ w z) : sxGive T σ w z := by
  unfold sxRemI at h
  split at h
  · split at h
    · exact hg w h
    · exact sxRem1_ok hB h hx hy hs hg
  · exact sxRem1_ok hB h hx hy hs hg
end SXOPS

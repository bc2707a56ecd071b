/-! SX: patterns of states -/
noncomputable section SXPAT
/-- how many symbols; bounds; differences; locals; stack; cells; rows; facts -/
abbrev sxPt : Type := Nat × sxD × sxE × sxL × List sxV × sxO × sxG × sxF
def sxPtR (T : Nat) (n : Nat) (vw : Nat → Nat → Option Value) (σ : List Int) (p : sxPt) (cl : mjL) (cs : List Value) : Prop :=
  (σ.length = p.1 ∧ σ[0]? = some 0) ∧ (∀ q ∈ p.2.1, sxIn σ q) ∧ (∀ q ∈ p.2.2.1, sxDf σ q) ∧ sxLR n σ p.2.2.2.1 cl ∧ sxSR σ p.2.2.2.2.1 cs ∧ sxOR vw σ p.2.2.2.2.2.1 ∧ sxGR vw σ p.2.2.2.2.2.2.1 ∧ ∀ q ∈ p.2.2.2.2.2.2.2, sxFt T σ q
def sxEv (σ : List Int) (n : sxN) : Int := σ.getD n.1 0 + n.2
/-- a pattern's symbol, as it stands here -/
def sxTn (θ : List sxN) (x : sxN) : Option sxN := bFc x.1 fun i => match aNth θ i with
  | some n => some (n.1, n.2 + x.2)
  | none => none
def sxTv (θ : List sxN) (B : sxB) (a b : sxV) : Bool := match a with
  | .inl m => (match b with | .inl n => Nat.beq m n | .inr _ => false)
  | .inr (k, x) => match b with
    | .inl _ => false
    | .inr (k2, y) => match bEq k k2 with
      | true => (match sxTn θ x with
        | some z => sxEqv B z y
        | none => false)
      | false => false
def sxPle (p q : sxP) : Bool := match p with
  | .inl rs => (match q with | .inl ss => rs.all (fun r => ss.any (fun s => Nat.beq s r)) | .inr _ => false)
  | .inr (k, lo, hi) => match q with
    | .inl _ => false
    | .inr (k2, lo2, hi2) => match bEq k k2 with
      | true => (match iLe lo2 lo with | true => iLe hi hi2 | false => false)
      | false => false
def sxIncL (θ : List sxN) (B : sxB) (ls : sxL) (pl : sxL) : Bool := pl.all (fun q => match sxGt ls q.1 with
  | some b => sxTv θ B q.2 (sxNmV B b)
  | none => false)
def sxIncS (θ : List sxN) (B : sxB) : List sxV → List sxV → Bool
  | [], [] => true
  | a :: as, b :: bs => (match sxTv θ B a (sxNmV B b) with | true => sxIncS θ B as bs | false => false)
  | _, _ => false
def sxIncO (θ : List sxN) (B : sxB) (O : sxO) (po : sxO) : Bool := po.all (fun q => match sxTn θ q.2.1 with
  | some y => (match sxOl O q.1 y with
    | some b => sxTv θ B q.2.2 (sxNmV B b)
    | none => false)
  | none => false)
/-- a fact like this one -/
def sxHasF (B : sxB) (o : Nat) (x y z : sxN) (l_ : sxF) : Bool := @List.rec _ (fun _ => Bool) (false) (fun q _ ih => match Nat.beq q.1 o with
    | true => (match sxEqv B q.2.1 x with
      | true => (match sxEqv B q.2.2.1 y with
        | true => (match sxEqv B q.2.2.2 z with | true => true | false => ih)
        | false => ih)
      | false => ih)
    | false => ih) l_
theorem sxHasF_c {B : sxB} {o : Nat} {x y z : sxN} {q : Nat × sxN × sxN × sxN} {r : sxF} : sxHasF B o x y z (q :: r) = (match Nat.beq q.1 o with
    | true => (match sxEqv B q.2.1 x with
      | true => (match sxEqv B q.2.2.1 y with
        | true => (match sxEqv B q.2.2.2 z with | true => true | false => sxHasF B o x y z r)
        | false => sxHasF B o x y z r)
      | false => sxHasF B o x y z r)
    | false => sxHasF B o x y z r) := rfl
def sxIncF (θ : List sxN) (B : sxB) (pf : sxF) : Bool := pf.all (fun q => match sxTn θ q.2.1 with
  | some a => (match sxTn θ q.2.2.1 with
    | some b => (match sxTn θ q.2.2.2 with
      | some c => bFc q.1 fun o => nFc (sxNm B a) fun a => nFc (sxNm B b) fun b => nFc c fun c => sxBf B fun B0 => sxHasF B0 o a b c (sxFo B.2.2.2.2 o)
      | none => false)
    | none => false)
  | none => false)
def sxIncG (θ : List sxN) (B : sxB) (G : sxG) (pg : sxG) : Bool := pg.all (fun q => match sxTn θ q.2.1 with
  | some y => (match sxLe B y (0, 0) 0 with
    | true => true
    | false => G.any (fun g => match Nat.beq g.1 q.1 with
      | true => (match sxLe B y g.2.1 0 with | true => sxPle g.2.2 q.2.2 | false => false)
      | false => false))
  | none => false)
def sxIncD (θ : List sxN) (B : sxB) (pd : sxD) : Bool := pd.all (fun q => bFc q.1 fun i => match aNth θ i with
  | some n => (match sxRg B n with
    | some r => (match iLe q.2.1 r.1 with | true => iLe r.2 q.2.2 | false => false)
    | none => false)
  | none => false)
def sxIncE (θ : List sxN) (B : sxB) (pe : sxE) : Bool := pe.all (fun q => bFc q.1 fun i => bFc q.2.1 fun j => match aNth θ i with
  | some n => (match aNth θ j with
    | some m => sxLe B n m q.2.2
    | none => false)
  | none => false)
/-- the first r symbols are the same ones -/
def sxRig (θ : List sxN) (r : Nat) : Bool := (List.range r).all (fun p => match aNth θ p with | some n => sxSame n (p, 0) | none => false)
def sxIncl (r : Nat) (θ : List sxN) (p : sxPt) (ls : sxL) (st : List sxV) (B : sxB) (O : sxO) (G : sxG) : Bool := match Nat.beq θ.length p.1 with
  | true => (match θ.all (fun n => Nat.blt n.1 B.1) with
    | true => (match sxRig θ r with
      | true => (match sxIncD θ B p.2.1 with
        | true => (match sxIncE θ B p.2.2.1 with
          | true => (match sxIncL θ B ls p.2.2.2.1 with
            | true => (match sxIncS θ B p.2.2.2.2.1 st with
              | true => (match sxIncO θ B O p.2.2.2.2.2.1 with
                | true => (match sxIncG θ B G p.2.2.2.2.2.2.1 with
                  | true => sxIncF θ B p.2.2.2.2.2.2.2
                  | false => false)
                | false => false)
              | false => false)
            | false => false)
          | false => false)
        | false => false)
      | false => false)
    | false => false)
  | false => false
variable {T : Nat} {σ σ' : List Int} {vw : Nat → Nat → Option Value} {B : sxB} {O : sxO} {G : sxG} {ls : sxL} {st : List sxV} {cl : mjL} {cs : List Value} {θ : List sxN} {n r : Nat} {p : sxPt}
/-- the pattern's numbers -/
def sxSb (σ : List Int) (θ : List sxN) : List Int := θ.map (sxEv σ)
theorem sxSb_get {i : Nat} {m : sxN} (h : aNth θ i = some m) : (sxSb σ θ)[i]? = some (sxEv σ m) := by
  rw [aNth_eq] at h
  unfold sxSb
  rw [List.getElem?_map, h]
  rfl
theorem sxEv_nr {m : sxN} (h : m.1 < σ.length) : sxNR σ m (sxEv σ m) := by
  refine ⟨σ[m.1], List.getElem?_eq_getElem h, ?_⟩
  unfold sxEv
  rw [List.getD_eq_getElem?_getD, List.getElem?_eq_getElem h]
  rfl
theorem sxTn_nr {x y : sxN} {z : Int} (hθ : ∀ m ∈ θ, m.1 < σ.length) (h : sxTn θ x = some y) (hz : sxNR σ y z) : sxNR (sxSb σ θ) x z := by
  unfold sxTn at h
  rw [bFc_eq] at h
  split at h
  · rename_i m hm
    cases h
    refine ⟨_, sxSb_get hm, ?_⟩
    have h1 := sxEv_nr (hθ m (by rw [aNth_eq] at hm; exact List.mem_of_getElem? hm))
    obtain ⟨a, e1, e2⟩ := h1
    obtain ⟨b, e3, e4⟩ := hz
    cases Option.some.inj (e1.symm.trans e3)
    dsimp only at e4
    omega
  · cases h
theorem sxTn_rn {x y : sxN} (hθ : ∀ m ∈ θ, m.1 < σ.length) (h : sxTn θ x = some y) : ∃ z, sxNR σ y z ∧ sxNR (sxSb σ θ) x z := by
  have h0 := h
  unfold sxTn at h0
  rw [bFc_eq] at h0
  split at h0
  · rename_i m hm
    cases h0
    obtain ⟨a, e1, e2⟩ := sxEv_nr (hθ m (by rw [aNth_eq] at hm; exact List.mem_of_getElem? hm))
    have hz : sxNR σ (m.1, m.2 + x.2) (a + (m.2 + x.2)) := ⟨a, e1, rfl⟩
    exact ⟨_, hz, sxTn_nr hθ h hz⟩
  · cases h0
theorem sxHasF_ok {o : Nat} {x y z : sxN} {X Y Z : Int} (hB : sxBR T σ B) (hx : sxNR σ x X) (hy : sxNR σ y Y) (hz : sxNR σ z Z) : ∀ {F : sxF}, sxHasF B o x y z F = true → (∀ q ∈ F, sxFt T σ q) → sxSem T o X Y = Z
  | [], h, _ => by cases h
  | q :: r, h, hF => by
    have hr : ∀ q ∈ r, sxFt T σ q := fun q hq => hF q (List.mem_cons_of_mem _ hq)
    rw [sxHasF_c] at h
    split at h
    · rename_i h1
      split at h
      · rename_i h2
        split at h
        · rename_i h3
          split at h
          · rename_i h4
            obtain ⟨a, b, c, e1, e2, e3, e4⟩ := hF q List.mem_cons_self
            cases sxEqv_ok hB h2 e1 hx
            cases sxEqv_ok hB h3 e2 hy
            rw [← Nat.eq_of_beq_eq_true h1, e4]
            exact sxEqv_ok hB h4 e3 hz
          · exact sxHasF_ok hB hx hy hz h hr
        · exact sxHasF_ok hB hx hy hz h hr
      · exact sxHasF_ok hB hx hy hz h hr
    · exact sxHasF_ok hB hx hy hz h hr
theorem sxTv_ok {a b : sxV} {v : Value} (hθ : ∀ m ∈ θ, m.1 < σ.length) (hB : sxBR T σ B) (h : sxTv θ B a b = true) (hv : sxVR σ b v) : sxVR (sxSb σ θ) a v := by
  match a, h with
  | .inl m, h =>
    match b, h, hv with
    | .inl k, h, hv =>
      have := Nat.eq_of_beq_eq_true (show Nat.beq m k = true from h)
      subst this
      exact hv
  | .inr (k, x), h =>
    match b, h, hv with
    | .inr (k2, y), h, hv =>
      unfold sxTv at h
      dsimp only at h
      split at h
      · rename_i e
        have e := bEq_ok e
        subst e
        split at h
        · rename_i z hz
          obtain ⟨Z, z1, z2⟩ := sxTn_rn hθ hz
          have hq := h
          clear h
          cases k
          · obtain ⟨w, rfl, hw⟩ := hv
            cases sxEqv_ok hB hq z1 hw
            exact ⟨w, rfl, z2⟩
          · obtain ⟨w, rfl, hw⟩ := hv
            cases sxEqv_ok hB hq z1 hw
            exact ⟨w, rfl, z2⟩
        · cases h
      · cases h
theorem sxPle_ok {p q : sxP} {v : Value} (h : sxPle p q = true) (hv : sxPR p v) : sxPR q v := by
  match p, hv with
  | .inl rs, hv =>
    match q, h with
    | .inl ss, h =>
      obtain ⟨m, h1, rfl⟩ := hv
      obtain ⟨s, h2, h3⟩ := List.any_eq_true.mp (List.all_eq_true.mp (show rs.all (fun r => ss.any (fun s => Nat.beq s r)) = true from h) m h1)
      have h3 := Nat.eq_of_beq_eq_true h3
      subst h3
      exact ⟨s, h2, rfl⟩
    | .inr _, h => cases h
  | .inr (k, lo, hi), hv =>
    match q, h with
    | .inl _, h => cases h
    | .inr (k2, lo2, hi2), h =>
      unfold sxPle at h
      dsimp only at h
      split at h
      · rename_i e
        have e := bEq_ok e
        subst e
        split at h
        · rename_i h1
          have h1 := iLe_ok h1
          have h2 := iLe_ok h
          cases k
          · obtain ⟨z, rfl, a1, a2⟩ := hv
            exact ⟨z, rfl, by omega, by omega⟩
          · obtain ⟨z, rfl, a1, a2⟩ := hv
            exact ⟨z, rfl, by omega, by omega⟩
        · cases h
      · cases h
theorem sxGt_mem : ∀ {ls : sxL} {i : Nat} {a : sxV}, sxGt ls i = some a → (i, a) ∈ ls
  | [], _, _, h => by cases h
  | q :: r, i, a, h => by
    unfold sxGt at h
    split at h
    · rename_i hb
      have hb := Nat.eq_of_beq_eq_true hb
      cases h
      subst hb
      exact List.mem_cons_self
    · exact List.mem_cons_of_mem _ (sxGt_mem h)
theorem sxIncS_ok (hθ : ∀ m ∈ θ, m.1 < σ.length) (hB : sxBR T σ B) : ∀ {ps st : List sxV} {cs : List Value}, sxIncS θ B ps st = true → sxSR σ st cs → sxSR (sxSb σ θ) ps cs
  | [], [], cs, _, hs => by cases sxSR_n hs; exact trivial
  | [], _ :: _, _, h, _ => by cases h
  | _ :: _, [], _, h, _ => by cases h
  | a :: as, b :: bs, cs, h, hs => by
    obtain ⟨v, vs, rfl, h1, h2⟩ := sxSR_c hs
    unfold sxIncS at h
    split at h
    · rename_i e
      exact ⟨sxTv_ok hθ hB e (sxNmV_ok hB h1), sxIncS_ok hθ hB h h2⟩
    · cases h
theorem sxIncl_ok (hB : sxBR T σ B) (hl : sxLR n σ ls cl) (hs : sxSR σ st cs) (hO : sxOR vw σ O) (hG : sxGR vw σ G) (hr0 : 0 < r) (h : sxIncl r θ p ls st B O G = true) : sxPtR T n vw (sxSb σ θ) p cl cs ∧ ∀ i, i < r → (sxSb σ θ)[i]? = some (σ.getD i 0) := by
  unfold sxIncl at h
  split at h
  · rename_i q1
    split at h
    · rename_i q2
      split at h
      · rename_i q3
        split at h
        · rename_i q4
          split at h
          · rename_i q5
            split at h
            · rename_i q6
              split at h
              · rename_i q7
                split at h
                · rename_i q8
                  split at h
                  case h_2 => cases h
                  rename_i q9
                  have hθ : ∀ m ∈ θ, m.1 < σ.length := fun m hm => by
                    have := List.all_eq_true.mp q2 m hm
                    rw [hB.1.1]
                    exact bltOk this
                  have hrig : ∀ i, i < r → (sxSb σ θ)[i]? = some (σ.getD i 0) := by
                    intro i hi
                    have h1 := List.all_eq_true.mp q3 i (List.mem_range.mpr hi)
                    split at h1
                    · rename_i m hm
                      have h1 := sxSame_ok h1
                      subst h1
                      rw [sxSb_get hm]
                      simp [sxEv]
                    · cases h1
                  have h0 : σ.getD 0 0 = 0 := by
                    rw [List.getD_eq_getElem?_getD, hB.1.2]
                    rfl
                  refine ⟨⟨⟨by unfold sxSb; rw [List.length_map]; exact Nat.eq_of_beq_eq_true q1, by rw [hrig 0 hr0, h0]⟩, fun q hq => ?_, fun q hq => ?_, ⟨fun i a ha => ?_, hl.2⟩, sxIncS_ok hθ hB q7 hs, fun q hq => ?_, fun q hq => ?_, fun q hq => ?_⟩, hrig⟩
                  · have h1 := List.all_eq_true.mp q4 q hq
                    simp only [bFc_eq] at h1
                    split at h1
                    · rename_i m hm
                      split at h1
                      · rename_i rr hrr
                        split at h1
                        · rename_i e1
                          have e1 := iLe_ok e1
                          have e2 := iLe_ok h1
                          have e3 := sxRg_ok hB hrr (sxEv_nr (hθ m (by rw [aNth_eq] at hm; exact List.mem_of_getElem? hm)))
                          exact ⟨_, sxSb_get hm, by omega, by omega⟩
                        · cases h1
                      · cases h1
                    · cases h1
                  · have h1 := List.all_eq_true.mp q5 q hq
                    simp only [bFc_eq] at h1
                    split at h1
                    · rename_i m hm
                      split at h1
                      · rename_i m2 hm2
                        exact ⟨_, _, sxSb_get hm, sxSb_get hm2, sxLe_ok hB h1 (sxEv_nr (hθ m (by rw [aNth_eq] at hm; exact List.mem_of_getElem? hm))) (sxEv_nr (hθ m2 (by rw [aNth_eq] at hm2; exact List.mem_of_getElem? hm2)))⟩
                      · cases h1
                    · cases h1
                  · have h1 := List.all_eq_true.mp q6 (i, a) (sxGt_mem ha)
                    dsimp only at h1
                    split at h1
                    · rename_i b hb
                      obtain ⟨v, g1, g2⟩ := hl.1 i b hb
                      exact ⟨v, g1, sxTv_ok hθ hB h1 (sxNmV_ok hB g2)⟩
                    · cases h1
                  · have h1 := List.all_eq_true.mp q8 q hq
                    split at h1
                    · rename_i y hy
                      split at h1
                      · rename_i b hb
                        obtain ⟨z, v, g1, g2, g3, g4⟩ := hO _ (sxOl_mem hb)
                        exact ⟨z, v, sxTn_nr hθ hy g1, g2, g3, sxTv_ok hθ hB h1 (sxNmV_ok hB g4)⟩
                      · cases h1
                    · cases h1
                  · have h1 := List.all_eq_true.mp q9 q hq
                    split at h1
                    · rename_i y hy
                      obtain ⟨z, g1, g2⟩ := sxTn_rn hθ hy
                      refine ⟨z, g2, fun j v hj hv => ?_⟩
                      split at h1
                      · rename_i e
                        have := sxLe_ok hB e g1 ⟨0, hB.1.2, by simp⟩ (Y := 0)
                        omega
                      · obtain ⟨g, hg, h2⟩ := List.any_eq_true.mp h1
                        split at h2
                        · rename_i e1
                          have e1 := Nat.eq_of_beq_eq_true e1
                          split at h2
                          · rename_i e2
                            obtain ⟨w, f1, f2⟩ := hG g hg
                            have := sxLe_ok hB e2 g1 f1
                            exact sxPle_ok h2 (f2 j v (by omega) (by rw [e1]; exact hv))
                          · cases h2
                        · cases h2
                    · cases h1
                  · have h1 := List.all_eq_true.mp h q hq
                    split at h1
                    · rename_i a ha
                      split at h1
                      · rename_i b hb
                        split at h1
                        · rename_i c hc
                          obtain ⟨a', a1, a2⟩ := sxTn_rn hθ ha
                          obtain ⟨b', b1, b2⟩ := sxTn_rn hθ hb
                          obtain ⟨c', c1, c2⟩ := sxTn_rn hθ hc
                          rw [bFc_eq, nFc_eq, nFc_eq, nFc_eq, sxBf_eq] at h1
                          exact ⟨a', b', c', a2, b2, c2, sxHasF_ok (sxBf_ok hB) (sxNm_ok hB a1) (sxNm_ok hB b1) c1 h1 (fun q hq => hB.2.2.2.2 q (sxFo_sub hq))⟩
                        · cases h1
                      · cases h1
                    · cases h1
                · cases h
              · cases h
            · cases h
          · cases h
        · cases h
      · cases h
    · cases h
  · cases h
/-- a place for each symbol, found by looking at both sides -/
abbrev sxTa : Type := List (Nat × sxN)
def sxTaG (t : sxTa) (i : Nat) : Option sxN := @List.rec (Nat × sxN) (fun _ => Option sxN) none (fun q _ ih => @Bool.rec (fun _ => Option sxN) (@Option.rec sxN (fun _ => Option sxN) none (fun a_ => some a_) ih) (some q.2) (Nat.beq q.1 i)) t
def sxBnd (t : sxTa) (a b : sxV) : sxTa := match a with
  | .inl _ => t
  | .inr (_, x) => match x.1 with
    | 0 => t
    | p + 1 => match b with
      | .inl _ => t
      | .inr (_, y) => match sxTaG t (p + 1) with
        | some _ => t
        | none => iFc (y.2 - x.2) fun c => (p + 1, (y.1, c)) :: t
def sxBndL (B : sxB) (ls : sxL) (l_ : sxL) : sxTa → sxTa := @List.rec _ (fun _ => sxTa → sxTa) (fun t => t) (fun q _ ih t => match sxGt ls q.1 with
    | some b => ih (sxBnd t q.2 (sxNmV B b))
    | none => ih t) l_
theorem sxBndL_c {B : sxB} {ls : sxL} {q : Nat × sxV} {r : sxL} {t : sxTa} : sxBndL B ls (q :: r) t = (match sxGt ls q.1 with
    | some b => sxBndL B ls r (sxBnd t q.2 (sxNmV B b))
    | none => sxBndL B ls r t) := rfl
def sxBndS (B : sxB) : List sxV → List sxV → sxTa → sxTa
  | a :: as, b :: bs, t => sxBndS B as bs (sxBnd t a (sxNmV B b))
  | _, _, t => t
def sxTaN (t : sxTa) (x : sxN) : Option sxN := match x.1 with
  | 0 => some x
  | s + 1 => match sxTaG t (s + 1) with
    | some n => some (n.1, n.2 + x.2)
    | none => none
/-- places that give a number first; places that a number names -/
def sxBts (v : sxV) : Nat := match v with
  | .inl _ => 0
  | .inr (_, x) => x.1
def sxNwO (O : sxO) : Nat → sxO := @List.rec (Nat × sxN × sxV) (fun _ => Nat → sxO) (fun _ => []) (fun q _ ih seen => match q.2.1.1 with
  | _ + 1 => q :: ih seen
  | 0 => match sxBts q.2.2 with
    | 0 => ih seen
    | s + 1 => match Nat.beq (Nat.land seen (Nat.shiftLeft 1 (s + 1))) 0 with
      | true => bFc (Nat.lor seen (Nat.shiftLeft 1 (s + 1))) fun z => q :: ih z
      | false => ih seen) O
def sxSnV (v : sxV) (z : Nat) : Nat := match sxBts v with
  | 0 => z
  | s + 1 => Nat.lor z (Nat.shiftLeft 1 (s + 1))
def sxSn (p : sxPt) (z : Nat) : Nat := p.2.2.2.2.1.foldl (fun z v => sxSnV v z) (p.2.2.2.1.foldl (fun z q => sxSnV q.2 z) z)
def sxSnO (O : sxO) (z : Nat) : Nat := O.foldl (fun z q => match q.2.1.1 with | 0 => sxSnV q.2.2 z | _ + 1 => z) z
def sxSn0 (r : Nat) : Nat := Nat.sub (Nat.shiftLeft 1 r) 1
def sxSyO (O : sxO) : sxO := O.filter (fun q => match q.2.1.1 with | 0 => false | _ + 1 => true)
def sxBndO (B : sxB) (O : sxO) (l_ : sxO) : sxTa → sxTa := @List.rec _ (fun _ => sxTa → sxTa) (fun t => t) (fun q _ ih t => match sxTaN t q.2.1 with
    | some y => (match sxOl O q.1 y with
      | some b => ih (sxBnd t q.2.2 (sxNmV B b))
      | none => ih t)
    | none => ih t) l_
theorem sxBndO_c {B : sxB} {O : sxO} {q : Nat × sxN × sxV} {r : sxO} {t : sxTa} : sxBndO B O (q :: r) t = (match sxTaN t q.2.1 with
    | some y => (match sxOl O q.1 y with
      | some b => sxBndO B O r (sxBnd t q.2.2 (sxNmV B b))
      | none => sxBndO B O r t)
    | none => sxBndO B O r t) := rfl
def sxBndF (B : sxB) (l_ : sxF) : sxTa → sxTa := @List.rec _ (fun _ => sxTa → sxTa) (fun t => t) (fun q _ ih t => match sxTaN t q.2.1 with
    | some a => (match sxTaN t q.2.2.1 with
      | some b => (match sxFl B B.2.2.2.2 q.1 (sxNm B a) (sxNm B b) with
        | some z => ih (sxBnd t (.inr (false, q.2.2.2)) (.inr (false, sxNm B z)))
        | none => ih t)
      | none => ih t)
    | none => ih t) l_
theorem sxBndF_c {B : sxB} {q : Nat × sxN × sxN × sxN} {r : sxF} {t : sxTa} : sxBndF B (q :: r) t = (match sxTaN t q.2.1 with
    | some a => (match sxTaN t q.2.2.1 with
      | some b => (match sxFl B B.2.2.2.2 q.1 (sxNm B a) (sxNm B b) with
        | some z => sxBndF B r (sxBnd t (.inr (false, q.2.2.2)) (.inr (false, sxNm B z)))
        | none => sxBndF B r t)
      | none => sxBndF B r t)
    | none => sxBndF B r t) := rfl
/-- what a table gives at the places that a pattern asks for -/
def sxMatF (l_ : sxF) : sxTa → sxB → sxB := @List.rec _ (fun _ => sxTa → sxB → sxB) (fun _ B => B) (fun q _ ih t B => match sxTaN t q.2.1 with
    | none => ih t B
    | some a => match sxTaN t q.2.2.1 with
      | none => ih t B
      | some b => match sxFl B B.2.2.2.2 q.1 (sxNm B a) (sxNm B b) with
        | some z => ih (sxBnd t (.inr (false, q.2.2.2)) (.inr (false, sxNm B z))) B
        | none => match sxTbR q.1 with
          | none => ih t B
          | some g => match Nat.blt a.1 B.1 with
            | false => ih t B
            | true => match Nat.blt b.1 B.1 with
              | false => ih t B
              | true => match sxCst q.1 (sxNm B a) (sxNm B b) with
                | some v => iFc v fun v => ih (sxBnd t (.inr (false, q.2.2.2)) (.inr (false, (0, v)))) (sxFa B q.1 a b (0, v))
                | none => (fun w => ih (sxBnd t (.inr (false, q.2.2.2)) (.inr (false, w.2))) (sxFa w.1 q.1 a b w.2)) (sxFr B g.1 g.2)) l_
theorem sxMatF_c {q : Nat × sxN × sxN × sxN} {r : sxF} {t : sxTa} {B : sxB} : sxMatF (q :: r) t B = (match sxTaN t q.2.1 with
    | none => sxMatF r t B
    | some a => match sxTaN t q.2.2.1 with
      | none => sxMatF r t B
      | some b => match sxFl B B.2.2.2.2 q.1 (sxNm B a) (sxNm B b) with
        | some z => sxMatF r (sxBnd t (.inr (false, q.2.2.2)) (.inr (false, sxNm B z))) B
        | none => match sxTbR q.1 with
          | none => sxMatF r t B
          | some g => match Nat.blt a.1 B.1 with
            | false => sxMatF r t B
            | true => match Nat.blt b.1 B.1 with
              | false => sxMatF r t B
              | true => match sxCst q.1 (sxNm B a) (sxNm B b) with
                | some v => iFc v fun v => sxMatF r (sxBnd t (.inr (false, q.2.2.2)) (.inr (false, (0, v)))) (sxFa B q.1 a b (0, v))
                | none => (fun w => sxMatF r (sxBnd t (.inr (false, q.2.2.2)) (.inr (false, w.2))) (sxFa w.1 q.1 a b w.2)) (sxFr B g.1 g.2)) := rfl
def sxRg0 (r : Nat) : sxTa := (List.range r).map (fun p => (p, (p, (0 : Int))))
def sxBndA (r : Nat) (p : sxPt) (ls : sxL) (st : List sxV) (B : sxB) (O : sxO) : sxTa := match p.2.2.2.2.2.2.2 with
  | [] => sxBndO B O (sxNwO p.2.2.2.2.2.1 (sxSn p (sxSn0 r))) (sxBndS B p.2.2.2.2.1 st (sxBndL B ls p.2.2.2.1 (sxRg0 r)))
  | q :: qs => sxBndO B O (sxSyO p.2.2.2.2.2.1) (sxBndF B (q :: qs) (sxBndO B O (sxNwO p.2.2.2.2.2.1 (sxSn p (sxSn0 r))) (sxBndS B p.2.2.2.2.1 st (sxBndL B ls p.2.2.2.1 (sxRg0 r)))))
def sxMtc (r : Nat) (p : sxPt) (ls : sxL) (st : List sxV) (B : sxB) (O : sxO) : List sxN :=
  (fun t => (List.range p.1).map (fun i => match sxTaG t i with | some n => n | none => (0, 0))) (sxBndA r p ls st B O)
theorem sxMatF_ok : ∀ {pf : sxF} {t : sxTa} {B : sxB} {σ : List Int}, sxBR T σ B → ∃ σ', sxUp σ σ' ∧ sxBR T σ' (sxMatF pf t B)
  | [], _, _, σ, hB => ⟨σ, sxUp.rf, hB⟩
  | q :: r, t, B, σ, hB => by
    rw [sxMatF_c]
    split
    · exact sxMatF_ok hB
    rename_i a ha0
    split
    · exact sxMatF_ok hB
    rename_i b hb0
    split
    · exact sxMatF_ok hB
    split
    · exact sxMatF_ok hB
    rename_i g hg
    split
    · exact sxMatF_ok hB
    rename_i h1
    split
    · exact sxMatF_ok hB
    rename_i h2
    have h1 := bltOk h1
    have h2 := bltOk h2
    rw [← hB.1.1] at h1 h2
    have ha := sxEv_nr h1
    have hb := sxEv_nr h2
    split
    · rename_i v hv
      rw [iFc_eq]
      exact sxMatF_ok (sxFa_ok hB ha hb (by rw [sxCst_ok hB hv (sxNm_ok hB ha) (sxNm_ok hB hb)]; exact ⟨0, hB.1.2, by simp⟩))
    have hr := sxTbR_ok (T := T) (sxEv σ a) (sxEv σ b) hg
    obtain ⟨σ', u, g1, g2⟩ := sxFr_ok hB hr.1 hr.2
    obtain ⟨σ2, u2, g3⟩ := sxMatF_ok (pf := r) (t := sxBnd t (.inr (false, q.2.2.2)) (.inr (false, (sxFr B g.1 g.2).2))) (sxFa_ok g1 (ha.up u) (hb.up u) g2)
    exact ⟨σ2, u.tr u2, g3⟩
end SXPAT

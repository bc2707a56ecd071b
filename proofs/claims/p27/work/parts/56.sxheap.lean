/-! SX: the heap: what always holds of its cells; what is known of some of them now -/
noncomputable section SXHEAP
abbrev sxP : Type := List Nat ⊕ (Bool × Int × Int)
/-- a cell: its type, its length, what holds of all of it, what holds place by place -/
abbrev sxCl : Type := Nat × Nat × Option sxP × List sxP
/-- cells in chunks; how many; the cells that the ghost rests on -/
abbrev sxKx : Type := List (List sxCl) × Nat × List (Nat × Nat × Nat × Nat)
abbrev sxO : Type := List (Nat × sxN × sxV)
abbrev sxG : Type := List (Nat × sxN × sxP)
abbrev sxMo : Type := List (Nat × Nat)
def sxPR : sxP → Value → Prop
  | .inl rs, v => ∃ n ∈ rs, v = .ref n
  | .inr (false, lo, hi), v => ∃ x : Int32, v = .int x ∧ lo ≤ x.toInt ∧ x.toInt ≤ hi
  | .inr (true, lo, hi), v => ∃ x : Int64, v = .long x ∧ lo ≤ x.toInt ∧ x.toInt ≤ hi
def sxCR (c : sxCl) (e : mjE) : Prop := (c.1 = e.1 ∧ c.2.1 = e.2.length) ∧ ∀ (j : Nat) (v : Value), e.2[j]? = some v → (∀ p, c.2.2.1 = some p → sxPR p v) ∧ ∀ p, aNth c.2.2.2 j = some p → sxPR p v
def sxHR (K : sxKx) (H : mjH) : Prop := H.length = K.2.1 ∧ ∀ (i : Nat) (c : sxCl), aGet2 K.1 i = some c → i < K.2.1 → ∃ e, H[i]? = some e ∧ sxCR c e
/-- all that is seen of a world: cells, the ghost, the script -/
abbrev sxGh : Type := mjH → Nat → Option Value
def sxVw (gh : sxGh) (scr : Option (List Int32)) (n : Nat) (H : mjH) (i j : Nat) : Option Value :=
  if i < n then (match H[i]? with | some e => e.2[j]? | none => none)
  else if i = n then gh H j
  else if i = mjScr then (match scr with | some xs => (xs[j]?).map Value.int | none => none) else if i = n + 1 then gh ((j, []) :: H) 1001 else none
def sxOR (vw : Nat → Nat → Option Value) (σ : List Int) (O : sxO) : Prop := ∀ q ∈ O, ∃ (z : Int) (v : Value), sxNR σ q.2.1 z ∧ 0 ≤ z ∧ vw q.1 z.toNat = some v ∧ sxVR σ q.2.2 v
def sxGR (vw : Nat → Nat → Option Value) (σ : List Int) (G : sxG) : Prop := ∀ q ∈ G, ∃ z : Int, sxNR σ q.2.1 z ∧ ∀ (j : Nat) (v : Value), (j : Int) < z → vw q.1 j = some v → sxPR q.2.2 v
variable {T : Nat} {σ σ' : List Int} {vw vw' : Nat → Nat → Option Value} {B : sxB} {O : sxO} {G : sxG} {K : sxKx} {H : mjH} {x y : sxN} {X Y : Int}
theorem sxOR.up (hu : sxUp σ σ') (h : sxOR vw σ O) : sxOR vw σ' O := fun q hq => by
  obtain ⟨z, v, h1, h2, h3, h4⟩ := h q hq
  exact ⟨z, v, h1.up hu, h2, h3, h4.up hu⟩
theorem sxGR.up (hu : sxUp σ σ') (h : sxGR vw σ G) : sxGR vw σ' G := fun q hq => by
  obtain ⟨z, h1, h2⟩ := h q hq
  exact ⟨z, h1.up hu, h2⟩
def sxNmV (B : sxB) (v : sxV) : sxV := match v with
  | .inl r => .inl r
  | .inr (k, n) => .inr (k, sxNm B n)
theorem sxNmV_ok (hB : sxBR T σ B) {a : sxV} {v : Value} (h : sxVR σ a v) : sxVR σ (sxNmV B a) v := by
  match a, h with
  | .inl w, h => exact h
  | .inr (false, n), h => obtain ⟨z, h1, h2⟩ := h; exact ⟨z, h1, sxNm_ok hB h2⟩
  | .inr (true, n), h => obtain ⟨z, h1, h2⟩ := h; exact ⟨z, h1, sxNm_ok hB h2⟩
def sxOl (O : sxO) (i : Nat) (x : sxN) : Option sxV := @List.rec (Nat × sxN × sxV) (fun _ => Option sxV) none (fun q _ ih => @Bool.rec (fun _ => Option sxV) (@Option.rec sxV (fun _ => Option sxV) none (fun a_ => some a_) ih) (@Bool.rec (fun _ => Option sxV) (@Option.rec sxV (fun _ => Option sxV) none (fun a_ => some a_) ih) (some q.2.2) (sxSame q.2.1 x)) (Nat.beq q.1 i)) O
theorem sxOl_cons (q : Nat × sxN × sxV) (r : sxO) (i : Nat) (x : sxN) : sxOl (q :: r) i x = match Nat.beq q.1 i with
    | true => (match sxSame q.2.1 x with | true => some q.2.2 | false => sxOl r i x)
    | false => sxOl r i x := by
  show @Bool.rec (fun _ => Option sxV) (oMm (sxOl r i x)) (@Bool.rec (fun _ => Option sxV) (oMm (sxOl r i x)) (some q.2.2) (sxSame q.2.1 x)) (Nat.beq q.1 i) = _
  rw [oMm_eq]
  cases Nat.beq q.1 i <;> cases sxSame q.2.1 x <;> rfl
theorem sxOl_mem : ∀ {O : sxO} {i : Nat} {x : sxN} {v : sxV}, sxOl O i x = some v → (i, x, v) ∈ O
  | [], _, _, _, h => by cases h
  | q :: r, i, x, v, h => by
    rw [sxOl_cons] at h
    split at h
    · rename_i h1
      split at h
      · rename_i h2
        cases h
        have h1 := Nat.eq_of_beq_eq_true h1
        have h2 := sxSame_ok h2
        subst h1 h2
        exact List.mem_cons_self
      · exact List.mem_cons_of_mem _ (sxOl_mem h)
    · exact List.mem_cons_of_mem _ (sxOl_mem h)
/-- what holds of a place -/
def sxSpc (c : sxCl) (x : sxN) : Option sxP := match c.2.2.2 with
  | [] => c.2.2.1
  | p :: ps => match x.1 with
    | 0 => aNth (p :: ps) x.2.toNat
    | _ + 1 => c.2.2.1
theorem sxSpc_ok {c : sxCl} {e : mjE} {p : sxP} {v : Value} (hB : sxBR T σ B) (h : sxSpc c x = some p) (hc : sxCR c e) (hx : sxNR σ x X) (hv : e.2[X.toNat]? = some v) : sxPR p v := by
  have h1 := hc.2 X.toNat v hv
  unfold sxSpc at h
  split at h
  · exact h1.1 p h
  · rename_i p0 ps hl
    obtain ⟨s, k⟩ := x
    dsimp only at h
    split at h
    · have := sxN0 hB hx
      subst this
      exact h1.2 p (by rw [hl]; exact h)
    · exact h1.1 p h
def sxCut (p q : sxP) : sxP := match p with
  | .inl rs => .inl rs
  | .inr (k, lo, hi) => match q with
    | .inl _ => .inr (k, lo, hi)
    | .inr (k2, lo2, hi2) => match bEq k k2 with
      | true => .inr (k, (match iLe lo lo2 with | true => lo2 | false => lo), (match iLe hi hi2 with | true => hi | false => hi2))
      | false => .inr (k, lo, hi)
theorem sxCut_ok {p q : sxP} {v : Value} (h1 : sxPR p v) (h2 : sxPR q v) : sxPR (sxCut p q) v := by
  match p, h1 with
  | .inl rs, h1 => exact h1
  | .inr (k, lo, hi), h1 =>
    match q, h2 with
    | .inl _, _ => exact h1
    | .inr (k2, lo2, hi2), h2 =>
      unfold sxCut
      dsimp only
      split
      · rename_i e
        have e := bEq_ok e
        subst e
        cases k <;> (obtain ⟨z, rfl, a1, a2⟩ := h1; obtain ⟨z', e, b1, b2⟩ := h2; cases e; refine ⟨z, rfl, ?_, ?_⟩ <;> split <;> assumption)
      · exact h1
/-- narrower, by what is known of the first so many -/
def sxGn (B : sxB) (i : Nat) (x : sxN) (l_ : sxG) : sxP → sxP := @List.rec _ (fun _ => sxP → sxP) (fun p => p) (fun q _ ih p => match Nat.beq q.1 i with
    | true => (match sxLe B x q.2.1 (-1) with
      | true => ih (sxCut p q.2.2)
      | false => ih p)
    | false => ih p) l_
theorem sxGn_c {B : sxB} {i : Nat} {x : sxN} {q : Nat × sxN × sxP} {r : sxG} {p : sxP} : sxGn B i x (q :: r) p = (match Nat.beq q.1 i with
    | true => (match sxLe B x q.2.1 (-1) with
      | true => sxGn B i x r (sxCut p q.2.2)
      | false => sxGn B i x r p)
    | false => sxGn B i x r p) := rfl
theorem sxGn_ok {i : Nat} {v : Value} (hB : sxBR T σ B) (hx : sxNR σ x X) (h0 : 0 ≤ X) (hv : vw i X.toNat = some v) : ∀ {G : sxG} {p : sxP}, sxGR vw σ G → sxPR p v → sxPR (sxGn B i x G p) v
  | [], _, _, hp => hp
  | q :: r, p, hG, hp => by
    have hr : sxGR vw σ r := fun q hq => hG q (List.mem_cons_of_mem _ hq)
    rw [sxGn_c]
    split
    · rename_i h1
      have h1 := Nat.eq_of_beq_eq_true h1
      split
      · rename_i h2
        obtain ⟨z, h3, h4⟩ := hG q List.mem_cons_self
        have h5 := sxLe_ok hB h2 hx h3
        exact sxGn_ok hB hx h0 hv hr (sxCut_ok hp (h4 X.toNat v (by omega) (by rw [h1]; exact hv)))
      · exact sxGn_ok hB hx h0 hv hr hp
    · exact sxGn_ok hB hx h0 hv hr hp
/-- a value of which this holds -/
def sxOut (i : Nat) (x : sxN) (B : sxB) (O : sxO) (p : sxP) : List (sxV × sxB × sxO) := match p with
  | .inl rs => rs.map (fun r => (.inl r, B, (i, x, .inl r) :: O))
  | .inr (k, lo, hi) => match sxFr B lo hi with
    | (B', n) => [(.inr (k, n), B', (i, x, .inr (k, n)) :: O)]
theorem sxOut_ok {i : Nat} {p : sxP} {v : Value} (hB : sxBR T σ B) (hO : sxOR vw σ O) (hx : sxNR σ x X) (h0 : 0 ≤ X) (hv : vw i X.toNat = some v) (hp : sxPR p v) : ∃ q ∈ sxOut i x B O p, ∃ σ', sxUp σ σ' ∧ sxVR σ' q.1 v ∧ sxBR T σ' q.2.1 ∧ sxOR vw σ' q.2.2 := by
  have hcons : ∀ {σ' : List Int} {a : sxV}, sxUp σ σ' → sxVR σ' a v → sxOR vw σ' ((i, x, a) :: O) := by
    intro σ' a hu ha q hq
    rcases List.mem_cons.mp hq with rfl | hq
    · exact ⟨X, v, hx.up hu, h0, hv, ha⟩
    · exact (sxOR.up hu hO) q hq
  match p, hp with
  | .inl rs, hp =>
    obtain ⟨n, hn, rfl⟩ := hp
    exact ⟨_, List.mem_map.mpr ⟨n, hn, rfl⟩, σ, sxUp.rf, rfl, hB, hcons sxUp.rf rfl⟩
  | .inr (false, lo, hi), hp =>
    obtain ⟨z, rfl, h1, h2⟩ := hp
    obtain ⟨σ', g1, g2, g3⟩ := sxFr_ok hB h1 h2
    exact ⟨_, List.mem_cons_self, σ', g1, ⟨z, rfl, g3⟩, g2, hcons g1 ⟨z, rfl, g3⟩⟩
  | .inr (true, lo, hi), hp =>
    obtain ⟨z, rfl, h1, h2⟩ := hp
    obtain ⟨σ', g1, g2, g3⟩ := sxFr_ok hB h1 h2
    exact ⟨_, List.mem_cons_self, σ', g1, ⟨z, rfl, g3⟩, g2, hcons g1 ⟨z, rfl, g3⟩⟩
/-- is the place there? -/
def sxInB (B : sxB) (x : sxN) (n : Nat) : Bool := match sxRg B x with
  | some p => (match iLe 0 p.1 with | true => iLe (p.2 + 1) (Int.ofNat n) | false => false)
  | none => false
theorem sxInB_ok {n : Nat} (hB : sxBR T σ B) (h : sxInB B x n = true) (hx : sxNR σ x X) : 0 ≤ X ∧ X < n := by
  unfold sxInB at h
  split at h
  · rename_i p hp
    have := sxRg_ok hB hp hx
    split at h
    · rename_i e1
      have e1 := iLe_ok e1
      have e2 := iLe_ok h
      simp only [Int.ofNat_eq_natCast] at e2
      omega
    · cases h
  · cases h
theorem sxInB_ex {n : Nat} (hB : sxBR T σ B) (h : sxInB B x n = true) : ∃ X, sxNR σ x X := by
  unfold sxInB at h
  split at h
  · rename_i p hp
    exact sxRg_ex hB hp
  · cases h
/-- a cell whose rows are all known: the place says which -/
def sxRow1 (p : sxP) : Option Nat := match p with
  | .inl [r] => some r
  | _ => none
def sxRows : List sxP → Option (List Nat)
  | [] => some []
  | p :: ps => match sxRow1 p with
    | some r => (match sxRows ps with | some rs => some (r :: rs) | none => none)
    | none => none
theorem sxRow1_ok {p : sxP} {r : Nat} (h : sxRow1 p = some r) : p = .inl [r] := by
  unfold sxRow1 at h
  split at h
  · cases h; rfl
  · cases h
theorem sxRows_nth : ∀ {ps : List sxP} {rs : List Nat} {j r : Nat}, sxRows ps = some rs → rs[j]? = some r → aNth ps j = some (.inl [r])
  | [], rs, j, r, h, hr => by cases h; simp at hr
  | p :: ps, rs, j, r, h, hr => by
    unfold sxRows at h
    split at h
    · rename_i r1 h1
      split at h
      · rename_i rs1 h2
        cases h
        have h1 := sxRow1_ok h1
        subst h1
        cases j with
        | zero => rw [List.getElem?_cons_zero] at hr; cases hr; rfl
        | succ j =>
          rw [List.getElem?_cons_succ] at hr
          have := sxRows_nth h2 hr
          rw [aNth_eq] at this ⊢
          rw [List.getElem?_cons_succ]
          exact this
      · cases h
    · cases h
def sxOutR (i : Nat) (x : sxN) (B : sxB) (O : sxO) : Nat → List Nat → List (sxV × sxB × sxO)
  | _, [] => []
  | j, r :: rs => (sxEqC B x (0, Int.ofNat j)).map (fun B' => (.inl r, B', (i, (0, Int.ofNat j), .inl r) :: O)) ++ bFc (j + 1) fun j' => sxOutR i x B O j' rs
theorem sxOutR_ok {i : Nat} (hB : sxBR T σ B) (hO : sxOR vw σ O) (hx : sxNR σ x X) : ∀ {rs : List Nat} {j k r : Nat}, rs[k]? = some r → X = ((j + k : Nat) : Int) → vw i X.toNat = some (.ref r) → ∃ q ∈ sxOutR i x B O j rs, sxVR σ q.1 (.ref r) ∧ sxBR T σ q.2.1 ∧ sxOR vw σ q.2.2
  | [], j, k, r, hr, _, _ => by simp at hr
  | r1 :: rs, j, k, r, hr, hX, hv => by
    unfold sxOutR
    cases k with
    | zero =>
      rw [List.getElem?_cons_zero] at hr
      cases hr
      have hy : sxNR σ (0, Int.ofNat j) X := ⟨0, hB.1.2, by rw [hX]; simp⟩
      obtain ⟨B', m1, m2⟩ := sxEqC_ok hB hx hy rfl
      refine ⟨_, List.mem_append_left _ (List.mem_map.mpr ⟨B', m1, rfl⟩), rfl, m2, fun q hq => ?_⟩
      rcases List.mem_cons.mp hq with rfl | hq
      · exact ⟨X, _, hy, by omega, hv, rfl⟩
      · exact hO q hq
    | succ k =>
      rw [List.getElem?_cons_succ] at hr
      obtain ⟨q, g1, g2⟩ := sxOutR_ok (j := j + 1) hB hO hx hr (by rw [hX]; congr 1; omega) hv
      exact ⟨q, List.mem_append_right _ (by rw [bFc_eq]; exact g1), g2⟩
def sxRr (c : sxCl) (x : sxN) : Option (List Nat) := match x.1 with
  | 0 => none
  | _ + 1 => match c.2.2.2 with
    | [] => none
    | p :: ps => match sxRows (p :: ps) with
      | some rs => (match Nat.ble c.2.1 rs.length with | true => some rs | false => none)
      | none => none
theorem sxRr_ok {c : sxCl} {rs : List Nat} (h : sxRr c x = some rs) : sxRows c.2.2.2 = some rs ∧ c.2.1 ≤ rs.length := by
  unfold sxRr at h
  split at h
  · cases h
  · split at h
    · cases h
    · rename_i p ps hp
      split at h
      · rename_i rs' h1
        split at h
        · rename_i h2
          cases h
          rw [hp]
          exact ⟨h1, Nat.le_of_ble_eq_true h2⟩
        · cases h
      · cases h
/-- reading a cell of a type at a place -/
def sxRd (K : sxKx) (O : sxO) (G : sxG) (B : sxB) (tg : Nat → Bool) (i : Nat) (x : sxN) : Option (List (sxV × sxB × sxO)) := match aGet2 K.1 i with
  | some c => (match Nat.blt i K.2.1 with
    | true => (match tg c.1 with
      | true => (match sxInB B x c.2.1 with
        | true => (match sxOl O i x with
          | some v => some [(sxNmV B v, B, O)]
          | none => match sxRr c x with
            | some rs => some (sxOutR i x B O 0 rs)
            | none => match sxSpc c x with
              | some p => some (sxOut i x B O (sxGn B i x G p))
              | none => none)
        | false => none)
      | false => none)
    | false => none)
  | none => none
theorem sxVw_in {gh : sxGh} {scr : Option (List Int32)} {n i j : Nat} {e : mjE} (hi : i < n) (he : H[i]? = some e) : sxVw gh scr n H i j = e.2[j]? := by
  unfold sxVw
  rw [if_pos hi, he]
theorem sxRd_ok {gh : sxGh} {scr : Option (List Int32)} {tg : Nat → Bool} {i : Nat} {l : List (sxV × sxB × sxO)} (hB : sxBR T σ B) (hH : sxHR K H) (hO : sxOR (sxVw gh scr K.2.1 H) σ O) (hG : sxGR (sxVw gh scr K.2.1 H) σ G) (h : sxRd K O G B tg i x = some l) (hx : sxNR σ x X) :
    ∃ (t : Nat) (vs : List Value) (v : Value), H[i]? = some (t, vs) ∧ tg t = true ∧ 0 ≤ X ∧ vs[X.toNat]? = some v ∧ ∃ q ∈ l, ∃ σ', sxUp σ σ' ∧ sxVR σ' q.1 v ∧ sxBR T σ' q.2.1 ∧ sxOR (sxVw gh scr K.2.1 H) σ' q.2.2 := by
  unfold sxRd at h
  split at h
  · rename_i c hc
    split at h
    · rename_i hlt
      have hlt : i < K.2.1 := bltOk hlt
      split at h
      · rename_i htg
        split at h
        · rename_i hin
          obtain ⟨e, he, hce⟩ := hH.2 i c hc hlt
          obtain ⟨t, vs⟩ := e
          obtain ⟨h0, hlen⟩ := sxInB_ok hB hin hx
          have hl2 : X.toNat < vs.length := by
            have : c.2.1 = vs.length := hce.1.2
            omega
          have hv : vs[X.toNat]? = some vs[X.toNat] := List.getElem?_eq_getElem hl2
          have hvw : sxVw gh scr K.2.1 H i X.toNat = some vs[X.toNat] := by rw [sxVw_in hlt he]; exact hv
          refine ⟨t, vs, _, he, by rw [← (show c.1 = t from hce.1.1)]; exact htg, h0, hv, ?_⟩
          split at h
          · rename_i a ha
            cases h
            obtain ⟨z, v, f1, f2, f3, f4⟩ := hO _ (sxOl_mem ha)
            have := sxNR.un hx f1
            subst this
            cases Option.some.inj (hvw.symm.trans f3)
            exact ⟨_, List.mem_cons_self, σ, sxUp.rf, sxNmV_ok hB f4, hB, hO⟩
          · split at h
            · rename_i rs hrs
              cases h
              obtain ⟨w1, w2⟩ := sxRr_ok hrs
              have hc2 : c.2.1 = vs.length := hce.1.2
              have hk : X.toNat < rs.length := by omega
              have hp := hce.2 X.toNat _ hv
              obtain ⟨n, hn, hvn⟩ := hp.2 _ (sxRows_nth w1 (List.getElem?_eq_getElem hk))
              cases List.mem_singleton.mp hn
              obtain ⟨q, g1, g2, g3, g4⟩ := sxOutR_ok (i := i) hB hO hx (List.getElem?_eq_getElem hk) (j := 0) (by rw [Nat.zero_add]; omega) (by rw [hvw, hvn])
              exact ⟨q, g1, σ, sxUp.rf, by rw [hvn]; exact g2, g3, g4⟩
            · split at h
              · rename_i p hp
                cases h
                exact sxOut_ok hB hO hx h0 hvw (sxGn_ok hB hx h0 hvw hG (sxSpc_ok hB hp hce hx hv))
              · cases h
        · cases h
      · cases h
    · cases h
  · cases h
end SXHEAP

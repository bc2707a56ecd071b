/-! the two JARs change places: what is seen of a world -/
noncomputable section GHSW
def swG (g : Nat) : Nat := if g < 20 then g else if g < 24 then g + 8 else if g < 28 then g else if g < 32 then g - 8 else if g < 36 then g else if g < 39 then g + 8 else if g < 44 then g else if g < 47 then g - 8 else g
theorem swG_spec (g : Nat) : (swG g = g ∧ (g < 20 ∨ (24 ≤ g ∧ g < 28) ∨ (32 ≤ g ∧ g < 36) ∨ (39 ≤ g ∧ g < 44) ∨ 47 ≤ g)) ∨ (swG g = g + 8 ∧ ((20 ≤ g ∧ g < 24) ∨ (36 ≤ g ∧ g < 39))) ∨ (swG g + 8 = g ∧ ((28 ≤ g ∧ g < 32) ∨ (44 ≤ g ∧ g < 47))) := by
  unfold swG
  repeat' split
  all_goals omega
theorem swG_sw (g : Nat) : swG (swG g) = g := by
  have h1 := swG_spec g
  have h2 := swG_spec (swG g)
  omega
theorem swG_lt {g : Nat} (h : g < 47) : swG g < 47 := by
  have h1 := swG_spec g
  omega
variable {T : Nat} {V : rdVt} {H : mjH} {σ : List Int}
theorem sxEl_sw (h : 19 ≤ H.length) (i j : Nat) : sxEl (swH H) i j = (sxEl H (swC i) j).map (rl swC) := by
  unfold sxEl
  rw [swH_get h]
  cases H[swC i]? with
  | none => rfl
  | some e =>
    show (e.2.map (rl swC))[j]? = _
    rw [List.getElem?_map]
theorem elInt_sw (h : 19 ≤ H.length) (i j : Nat) (x : Int32) : sxEl (swH H) i j = some (.int x) ↔ sxEl H (swC i) j = some (.int x) := by
  rw [sxEl_sw h]
  cases sxEl H (swC i) j with
  | none => exact ⟨fun e => (by cases e), fun e => (by cases e)⟩
  | some v => cases v <;> first | exact Iff.rfl | exact ⟨fun e => (by cases e), fun e => (by cases e)⟩
theorem ghV_sw (h : 19 ≤ H.length) (i j : Nat) : ghV (swH H) i j = ghV H (swC i) j := by
  unfold ghV
  rw [sxEl_sw h]
  cases sxEl H (swC i) j with
  | none => rfl
  | some v => cases v <;> rfl
theorem rwEl_sw (h : 19 ≤ H.length) (i j : Nat) : rwEl (swH H) i j = rwEl H (swC i) j := by
  unfold rwEl
  rw [sxEl_sw h]
  cases sxEl H (swC i) j with
  | none => rfl
  | some v => cases v <;> rfl
theorem ghV_hi (h : 19 ≤ H.length) {i : Nat} (j : Nat) (hi : 19 ≤ i) : ghV (swH H) i j = ghV H i j := by rw [ghV_sw h, swC_hi hi]
theorem ghRc_sw (h : 19 ≤ H.length) : ghRc (swH H) = ghRc H := funext fun i => ghV_hi h 0 (by omega)
theorem ghCc_sw (h : 19 ≤ H.length) : ghCc (swH H) = ghCc H := funext fun i => ghV_hi h 0 (by omega)
theorem ghP0_sw (h : 19 ≤ H.length) (k : Nat) : ghP0 (swH H) k = ghP0 H k := by
  unfold ghP0
  rw [ghRc_sw h, ghV_hi h 26 (show 19 ≤ 78 by decide), ghV_hi h 28 (show 19 ≤ 78 by decide), ghV_hi h 1 (show 19 ≤ 107 + (ghV H 78 26).toNat by omega)]
theorem ghP1_sw (h : 19 ≤ H.length) : ghP1 (swH H) = ghP1 H := by
  have e : ∀ k j : Nat, ghV (swH H) (107 + k) j = ghV H (107 + k) j := fun k j => ghV_hi h j (by omega)
  unfold ghP1
  rw [ghRc_sw h, ghV_hi h 26 (show 19 ≤ 78 by decide), ghV_hi h 28 (show 19 ≤ 78 by decide)]
  simp only [e]
theorem ghP2_sw (h : 19 ≤ H.length) : ghP2 (swH H) = ghP2 H := by
  have e : ∀ k j : Nat, ghV (swH H) (96 + k) j = ghV H (96 + k) j := fun k j => ghV_hi h j (by omega)
  unfold ghP2
  rw [ghCc_sw h, ghV_hi h 25 (show 19 ≤ 78 by decide)]
  simp only [e]
theorem ghP3_sw (h : 19 ≤ H.length) : ghP3 (swH H) = ghP3 H := by
  have e86 : ∀ k : Nat, sxEl (swH H) 86 k = (sxEl H 86 k).map (rl swC) := fun k => by rw [sxEl_sw h, swC_hi (show 19 ≤ 86 by decide)]
  unfold ghP3
  rw [ghV_hi h 0 (show 19 ≤ 82 by decide), ghV_hi h 1 (show 19 ≤ 82 by decide)]
  refine propext ⟨fun hp h3 k v hk hv => ?_, fun hp h3 k v hk hv => ?_⟩
  · obtain ⟨x, hx, hr⟩ := hp h3 k (rl swC v) hk (by rw [e86, hv]; rfl)
    refine ⟨x, ?_, hr⟩
    cases v <;> first | exact hx | cases hx
  · rw [e86] at hv
    cases hu : sxEl H 86 k with
    | none => rw [hu] at hv; cases hv
    | some u =>
      rw [hu] at hv
      cases hv
      obtain ⟨x, hx, hr⟩ := hp h3 k u hk hu
      subst hx
      exact ⟨x, rfl, hr⟩
theorem ghP4_sw (h : 19 ≤ H.length) (z : Int) : ghP4 (swH H) z = ghP4 H z := by
  unfold ghP4
  rw [ghV_hi h 4 (show 19 ≤ 78 by decide), ghV_hi h 28 (show 19 ≤ 78 by decide)]
theorem ghP5_sw (h : 19 ≤ H.length) : ghP5 T (swH H) = ghP5 T H := by
  have e : ∀ (k : Nat) (x : Int32), (sxEl (swH H) 2 k = some (.int x)) = (sxEl H 2 k = some (.int x)) := fun k x => propext (elInt_sw h 2 k x)
  unfold ghP5
  simp only [e]
theorem ghP6_sw (h : 19 ≤ H.length) : ghP6 T (swH H) = ghP6 T H := by
  have e : ∀ (k : Nat) (x : Int32), (sxEl (swH H) 79 k = some (.int x)) = (sxEl H 79 k = some (.int x)) := fun k x => propext (elInt_sw h 79 k x)
  unfold ghP6
  simp only [e]
def rwSw (r : rwR) : rwR := (swG r.1, (swC r.2.1.1, r.2.1.2), (swC r.2.2.1.1, r.2.2.1.2), r.2.2.2)
theorem rwP_sw (h : 19 ≤ H.length) (r : rwR) : rwP T r (swH H) = rwP T (rwSw r) H := by
  have e : ∀ k : Nat, rwEl (swH H) r.2.2.1.1 (r.2.2.1.2 + k) = rwEl H (swC r.2.2.1.1) (r.2.2.1.2 + k) := fun k => rwEl_sw h _ _
  unfold rwP
  rw [ghV_sw h]
  simp only [e]
  rfl
theorem ghR_sw (h : 19 ≤ H.length) {g m : Nat} (hg : rwGet m = (rwGet g).map rwSw) : ghR T (swH H) g = ghR T H m := by
  unfold ghR
  rw [hg]
  cases rwGet g with
  | none => rfl
  | some r =>
    show some (Value.int (rwB (rwP T r (swH H)))) = some (.int (rwB (rwP T (rwSw r) H)))
    rw [rwP_sw h]
theorem rwAp_sw (h : 19 ≤ H.length) (i : Nat) : rwAp i (swH H) = rwAp (swC i) H := by
  unfold rwAp
  rw [rwEl_sw h, ghV_sw h]
def ocSw (r : ocTy) : ocTy := ((swG r.1.1, swG r.1.2), (swC r.2.1.1, r.2.1.2), (swC r.2.2.1.1, swC r.2.2.1.2.1, swC r.2.2.1.2.2), (swG r.2.2.2.1, swG r.2.2.2.2))
theorem rwZ_sw (h : 19 ≤ H.length) (i j : Nat) : rwZ (swH H) i j = rwZ H (swC i) j := by
  unfold rwZ
  rw [rwEl_sw h]
theorem ocW_sw (h : 19 ≤ H.length) (r : ocTy) (w : Int) : ∀ k : Nat, ocW r w (swH H) k = ocW (ocSw r) w H k
  | 0 => by
    show tAll (ghV (swH H) r.2.1.1 0) = tAll (ghV H (swC r.2.1.1) 0)
    rw [ghV_sw h]
  | k + 1 => by
    show (if rwZ (swH H) r.2.2.1.1 k ≤ w then (Int64.ofInt (ocW r w (swH H) k) &&& Int64.ofInt (rwZ (swH H) r.2.2.1.2.1 k)).toInt else ocW r w (swH H) k) = (if rwZ H (swC r.2.2.1.1) k ≤ w then (Int64.ofInt (ocW (ocSw r) w H k) &&& Int64.ofInt (rwZ H (swC r.2.2.1.2.1) k)).toInt else ocW (ocSw r) w H k)
    rw [ocW_sw h r w k, rwZ_sw h, rwZ_sw h]
theorem ocP_sw (h : 19 ≤ H.length) (r : ocTy) (w : Int) : ocP r w (swH H) = ocP (ocSw r) w H := by
  show (rwEl (swH H) r.2.2.1.2.2 w.toNat = some (ocW r w (swH H) (ghV (swH H) r.2.1.1 r.2.1.2).toNat)) = (rwEl H (swC r.2.2.1.2.2) w.toNat = some (ocW (ocSw r) w H (ghV H (swC r.2.1.1) r.2.1.2).toNat))
  rw [rwEl_sw h, ghV_sw h, ocW_sw h]
theorem ocA_sw (h : 19 ≤ H.length) (r : ocTy) : ocA r (swH H) = ocA (ocSw r) H := by
  have e : ∀ w : Nat, ocP r w (swH H) = ocP (ocSw r) w H := fun w => ocP_sw h r w
  unfold ocA
  simp only [e]
theorem ghL_sw (h : 19 ≤ H.length) {g : Nat} (hg : g < 47) : ghL T V (swH H) g = ghL T V H (swG g) := by
  have hc : g = 0 ∨ g = 1 ∨ g = 2 ∨ g = 3 ∨ g = 4 ∨ g = 5 ∨ g = 6 ∨ g = 7 ∨ g = 8 ∨ g = 9 ∨ g = 10 ∨ g = 11 ∨ g = 12 ∨ g = 13 ∨ g = 14 ∨ g = 15 ∨ g = 16 ∨ g = 17 ∨ g = 18 ∨ g = 19 ∨ g = 20 ∨ g = 21 ∨ g = 22 ∨ g = 23 ∨ g = 24 ∨ g = 25 ∨ g = 26 ∨ g = 27 ∨ g = 28 ∨ g = 29 ∨ g = 30 ∨ g = 31 ∨ g = 32 ∨ g = 33 ∨ g = 34 ∨ g = 35 ∨ g = 36 ∨ g = 37 ∨ g = 38 ∨ g = 39 ∨ g = 40 ∨ g = 41 ∨ g = 42 ∨ g = 43 ∨ g = 44 ∨ g = 45 ∨ g = 46 := by omega
  rcases hc with rfl | rfl | rfl | rfl | rfl | rfl | rfl | rfl | rfl | rfl | rfl | rfl | rfl | rfl | rfl | rfl | rfl | rfl | rfl | rfl | rfl | rfl | rfl | rfl | rfl | rfl | rfl | rfl | rfl | rfl | rfl | rfl | rfl | rfl | rfl | rfl | rfl | rfl | rfl | rfl | rfl | rfl | rfl | rfl | rfl | rfl | rfl
  · show ghN (fun z => ∃ k : Nat, z = k ∧ ghP0 (swH H) k) = ghN (fun z => ∃ k : Nat, z = k ∧ ghP0 H k)
    simp only [ghP0_sw h]
  · show ghB (ghP1 (swH H)) = ghB (ghP1 H)
    rw [ghP1_sw h]
  · show ghB (ghP2 (swH H)) = ghB (ghP2 H)
    rw [ghP2_sw h]
  · show ghB (ghP3 (swH H)) = ghB (ghP3 H)
    rw [ghP3_sw h]
  · show ghN (ghP4 (swH H)) = ghN (ghP4 H)
    rw [show ghP4 (swH H) = ghP4 H from funext fun z => ghP4_sw h z]
  · show ghB (ghP5 T (swH H)) = ghB (ghP5 T H)
    rw [ghP5_sw h]
  · show ghB (ghP6 T (swH H)) = ghB (ghP6 T H)
    rw [ghP6_sw h]
  · rfl
  · rfl
  · rfl
  · rfl
  · rfl
  · rfl
  · rfl
  · rfl
  · rfl
  · rfl
  · rfl
  · rfl
  · rfl
  · show ghR T (swH H) 20 = ghR T H 28
    exact ghR_sw h (by decide +kernel)
  · show ghR T (swH H) 21 = ghR T H 29
    exact ghR_sw h (by decide +kernel)
  · show ghR T (swH H) 22 = ghR T H 30
    exact ghR_sw h (by decide +kernel)
  · show ghR T (swH H) 23 = ghR T H 31
    exact ghR_sw h (by decide +kernel)
  · show ghR T (swH H) 24 = ghR T H 24
    exact ghR_sw h (by decide +kernel)
  · show ghR T (swH H) 25 = ghR T H 25
    exact ghR_sw h (by decide +kernel)
  · show ghR T (swH H) 26 = ghR T H 26
    exact ghR_sw h (by decide +kernel)
  · show ghR T (swH H) 27 = ghR T H 27
    exact ghR_sw h (by decide +kernel)
  · show ghR T (swH H) 28 = ghR T H 20
    exact ghR_sw h (by decide +kernel)
  · show ghR T (swH H) 29 = ghR T H 21
    exact ghR_sw h (by decide +kernel)
  · show ghR T (swH H) 30 = ghR T H 22
    exact ghR_sw h (by decide +kernel)
  · show ghR T (swH H) 31 = ghR T H 23
    exact ghR_sw h (by decide +kernel)
  · show ghR T (swH H) 32 = ghR T H 32
    exact ghR_sw h (by decide +kernel)
  · show ghR T (swH H) 33 = ghR T H 33
    exact ghR_sw h (by decide +kernel)
  · show ghR T (swH H) 34 = ghR T H 34
    exact ghR_sw h (by decide +kernel)
  · show ghR T (swH H) 35 = ghR T H 35
    exact ghR_sw h (by decide +kernel)
  · show ghB (rwAp 3 (swH H)) = ghB (rwAp 11 H)
    rw [rwAp_sw h]
    rfl
  · show ghB (ocP ocJ3 (tWk T) (swH H)) = ghB (ocP ocJ11 (tWk T) H)
    rw [ocP_sw h]
    rfl
  · show ghB (ocA ocJ3 (swH H)) = ghB (ocA ocJ11 H)
    rw [ocA_sw h]
    rfl
  · show ghB (ocP ocF (tWk T) (swH H)) = ghB (ocP ocF (tWk T) H)
    rw [ocP_sw h]
    rfl
  · show ghB (ocA ocF (swH H)) = ghB (ocA ocF H)
    rw [ocA_sw h]
    rfl
  · rfl
  · rfl
  · rfl
  · show ghB (rwAp 11 (swH H)) = ghB (rwAp 3 H)
    rw [rwAp_sw h]
    rfl
  · show ghB (ocP ocJ11 (tWk T) (swH H)) = ghB (ocP ocJ3 (tWk T) H)
    rw [ocP_sw h]
    rfl
  · show ghB (ocA ocJ11 (swH H)) = ghB (ocA ocJ3 H)
    rw [ocA_sw h]
    rfl
/-! patterns -/
def swV (v : sxV) : sxV := match v with
  | .inl m => .inl (swC m)
  | .inr q => .inr q
def swQ (q : Nat × sxN × sxV) : Nat × sxN × sxV := match Nat.beq q.1 579 with
  | true => (579, (0, Int.ofNat (swG q.2.1.2.toNat)), q.2.2)
  | false => (swC q.1, q.2.1, swV q.2.2)
def swQk (q : Nat × sxN × sxV) : Bool := match Nat.beq q.1 579 with
  | true => (match Nat.beq q.2.1.1 0 with
    | true => (match q.2.1.2 with
      | .ofNat z => (match q.2.2 with | .inr _ => Nat.blt z 47 | .inl _ => false)
      | .negSucc _ => false)
    | false => false)
  | false => (match Nat.beq q.1 580 with | true => false | false => true)
def swPt (p : sxPt) : sxPt := (p.1, p.2.1, p.2.2.1, p.2.2.2.1.map (fun q => (q.1, swV q.2)), p.2.2.2.2.1.map swV, p.2.2.2.2.2.1.map swQ, p.2.2.2.2.2.2.1, p.2.2.2.2.2.2.2)
theorem sxVR_sw {a : sxV} {v : Value} (h : sxVR σ a v) : sxVR σ (swV a) (rl swC v) := by
  match a, h with
  | .inl m, h =>
    have h : v = .ref m := h
    subst h
    exact (rfl : rl swC (.ref m) = .ref (swC m))
  | .inr (false, n), h =>
    obtain ⟨x, rfl, hx⟩ := h
    exact ⟨x, rfl, hx⟩
  | .inr (true, n), h =>
    obtain ⟨x, rfl, hx⟩ := h
    exact ⟨x, rfl, hx⟩
theorem sxGt_sw : ∀ (ls : sxL) (i : Nat), sxGt (ls.map (fun q => (q.1, swV q.2))) i = (sxGt ls i).map swV
  | [], _ => rfl
  | q :: r, i => by
    show (match Nat.beq q.1 i with | true => some (swV q.2) | false => sxGt (r.map (fun q => (q.1, swV q.2))) i) = (match Nat.beq q.1 i with | true => some q.2 | false => sxGt r i).map swV
    cases Nat.beq q.1 i with
    | true => rfl
    | false => exact sxGt_sw r i
theorem sxLR_sw {n : Nat} (hn : 19 ≤ n) {ls : sxL} {cl : mjL} (h : sxLR n σ ls cl) : sxLR n σ (ls.map (fun q => (q.1, swV q.2))) (rll swC cl) := by
  refine ⟨fun i a ha => ?_, fun q hq => ?_⟩
  · rw [sxGt_sw] at ha
    cases hb : sxGt ls i with
    | none => rw [hb] at ha; cases ha
    | some b =>
      rw [hb] at ha
      cases ha
      obtain ⟨v, h1, h2⟩ := h.1 i b hb
      exact ⟨rl swC v, by rw [mjGet_sw, h1]; rfl, sxVR_sw h2⟩
  · obtain ⟨p, hp, rfl⟩ := List.mem_map.mp hq
    show mjSc n (rl swC p.2) = true
    rw [mjSc_sw hn]
    exact h.2 p hp
theorem sxSR_sw : ∀ {st : List sxV} {cs : List Value}, sxSR σ st cs → sxSR σ (st.map swV) (rls swC cs)
  | [], [], _ => trivial
  | _ :: _, _ :: _, h => ⟨sxVR_sw h.1, sxSR_sw h.2⟩
  | [], _ :: _, h => h.elim
  | _ :: _, [], h => h.elim
variable {scr : Option (List Int32)} {gh : sxGh}
theorem sxVw_sw (h : 19 ≤ H.length) {i : Nat} (hi : ¬ i = 579) (hi2 : ¬ i = 579 + 1) (j : Nat) : sxVw gh scr 579 (swH H) (swC i) j = (sxVw gh scr 579 H i j).map (rl swC) := by
  by_cases h1 : i < 579
  · unfold sxVw
    rw [if_pos ((swC_lt (by decide)).mpr h1), if_pos h1, swH_get2 h]
    cases H[i]? with
    | none => rfl
    | some e =>
      show (e.2.map (rl swC))[j]? = _
      rw [List.getElem?_map]
  · have e : swC i = i := swC_hi (by omega)
    unfold sxVw
    rw [e, if_neg h1, if_neg hi, if_neg h1, if_neg hi]
    by_cases h2 : i = mjScr
    · rw [if_pos h2, if_pos h2]
      cases scr with
      | none => rfl
      | some xs =>
        show (xs[j]?).map Value.int = ((xs[j]?).map Value.int).map (rl swC)
        cases xs[j]? <;> rfl
    · have e1 : ∀ (A B : Option Value), (if i = mjScr then A else if i = 579 + 1 then B else none) = none := fun A B => by rw [if_neg h2, if_neg hi2]
      rw [e1]
      exact (congrArg (Option.map (rl swC)) (e1 _ _)).symm
theorem sxOR_sw (h : 19 ≤ H.length) (h0 : σ[0]? = some 0) {O : sxO} (hk : O.all swQk = true) (hO : sxOR (sxVw (ghL T V) scr 579 H) σ O) : sxOR (sxVw (ghL T V) scr 579 (swH H)) σ (O.map swQ) := by
  intro q' hq'
  obtain ⟨q, hq, rfl⟩ := List.mem_map.mp hq'
  have hk := List.all_eq_true.mp hk q hq
  obtain ⟨z, v, z1, z2, z3, z4⟩ := hO q hq
  obtain ⟨i, x, a⟩ := q
  dsimp only at z1 z3 z4
  unfold swQk at hk
  unfold swQ
  dsimp only at hk ⊢
  cases hb : Nat.beq i 579 with
  | false =>
    rw [hb] at hk
    dsimp only
    refine ⟨z, rl swC v, z1, z2, ?_, sxVR_sw z4⟩
    rw [sxVw_sw h (fun e => by subst e; cases hb) (fun e => by subst e; exact absurd (show false = true from hk) (by decide)), z3]
    rfl
  | true =>
    have e := Nat.eq_of_beq_eq_true hb
    subst e
    rw [hb] at hk
    dsimp only at hk ⊢
    obtain ⟨s, c⟩ := x
    dsimp only at hk ⊢
    split at hk
    · rename_i e0
      have e0 := Nat.eq_of_beq_eq_true e0
      subst e0
      split at hk
      · rename_i y
        split at hk
        · rename_i b
          have hy := bltOk hk
          obtain ⟨t, t1, t2⟩ := z1
          cases Option.some.inj (h0.symm.trans t1)
          have hz : z = (y : Int) := by
            have t2 : z = 0 + Int.ofNat y := t2
            rw [Int.ofNat_eq_natCast] at t2
            omega
          subst hz
          have z3 : ghL T V H y = some v := by
            have := z3
            unfold sxVw at this
            rw [if_neg (by decide), if_pos rfl, Int.toNat_natCast] at this
            exact this
          refine ⟨(swG y : Nat), v, ⟨0, h0, ?_⟩, (by omega), ?_, z4⟩
          · show ((swG y : Nat) : Int) = 0 + Int.ofNat (swG (Int.ofNat y).toNat)
            rw [show (Int.ofNat y).toNat = y from rfl, Int.ofNat_eq_natCast]
            omega
          · unfold sxVw
            rw [if_neg (by decide), if_pos rfl, Int.toNat_natCast, ghL_sw h (swG_lt hy), swG_sw]
            exact z3
        · cases hk
      · cases hk
    · cases hk
theorem sxPtR_sw (h : 19 ≤ H.length) {p : sxPt} {cl : mjL} {cs : List Value} (hG : p.2.2.2.2.2.2.1 = []) (hk : p.2.2.2.2.2.1.all swQk = true) (hp : sxPtR T 579 (sxVw (ghL T V) scr 579 H) σ p cl cs) : sxPtR T 579 (sxVw (ghL T V) scr 579 (swH H)) σ (swPt p) (rll swC cl) (rls swC cs) := by
  obtain ⟨p1, p2, p3, p4, p5, p6, p7, p8⟩ := hp
  refine ⟨p1, p2, p3, sxLR_sw (by decide) p4, sxSR_sw p5, sxOR_sw h p1.2 hk p6, ?_, p8⟩
  show sxGR _ σ p.2.2.2.2.2.2.1
  rw [hG]
  intro q hq
  cases hq
/-! what always holds -/
def swPl (a b : sxP) : Bool := match a with
  | .inl rs => (match b with | .inl ss => rs.all (fun r => ss.any (fun s => Nat.beq s (swC r))) | .inr _ => false)
  | .inr x => (match b with | .inl _ => false | .inr y => decide (x = y))
def swPo (a b : Option sxP) : Bool := match b with
  | none => true
  | some b => match a with | some a => swPl a b | none => false
def swCl (c d : sxCl) : Bool := (Nat.beq c.1 d.1 && Nat.beq c.2.1 d.2.1) && (swPo c.2.2.1 d.2.2.1 && (List.range d.2.2.2.length).all (fun j => swPo (aNth c.2.2.2 j) (aNth d.2.2.2 j)))
def swKs : Bool := (List.range 579).all (fun i => match aGet2 sxKs i with
  | none => true
  | some d => match aGet2 sxKs (swC i) with
    | some c => swCl c d
    | none => false)
theorem swKs_ok : swKs = true := by decide +kernel
theorem swPl_ok {a b : sxP} {v : Value} (h : swPl a b = true) (hv : sxPR a v) : sxPR b (rl swC v) := by
  unfold swPl at h
  match a, b, h, hv with
  | .inl rs, .inl ss, h, hv =>
    obtain ⟨n, hn, rfl⟩ := hv
    obtain ⟨s, s1, s2⟩ := List.any_eq_true.mp (List.all_eq_true.mp h n hn)
    have s2 := Nat.eq_of_beq_eq_true s2
    exact ⟨s, s1, by rw [s2]; rfl⟩
  | .inr (false, lo, hi), .inr y, h, hv =>
    have e := of_decide_eq_true h
    subst e
    obtain ⟨x, rfl, hx⟩ := hv
    exact ⟨x, rfl, hx⟩
  | .inr (true, lo, hi), .inr y, h, hv =>
    have e := of_decide_eq_true h
    subst e
    obtain ⟨x, rfl, hx⟩ := hv
    exact ⟨x, rfl, hx⟩
theorem swPo_ok {a b : Option sxP} {v : Value} (h : swPo a b = true) (hv : ∀ p, a = some p → sxPR p v) : ∀ p, b = some p → sxPR p (rl swC v) := by
  intro p hp
  subst hp
  unfold swPo at h
  dsimp only at h
  split at h
  · exact swPl_ok h (hv _ rfl)
  · cases h
theorem sxHR_sw (h : sxHR sxKw H) : sxHR sxKw (swH H) := by
  have h19 : 19 ≤ H.length := by rw [h.1]; decide
  refine ⟨by rw [swH_len]; exact h.1, fun i d hd hi => ?_⟩
  have hi : i < 579 := hi
  have key := List.all_eq_true.mp swKs_ok i (List.mem_range.mpr hi)
  have hd : aGet2 sxKs i = some d := hd
  rw [hd] at key
  dsimp only at key
  split at key
  · rename_i c hc
    obtain ⟨e, he, ⟨e1, e2⟩, e3⟩ := h.2 (swC i) c hc ((swC_lt (show 19 ≤ 579 by decide)).mpr hi)
    refine ⟨swE e, by rw [swH_get h19, he]; rfl, ?_⟩
    unfold swCl at key
    rw [Bool.and_eq_true, Bool.and_eq_true, Bool.and_eq_true] at key
    obtain ⟨⟨k1, k2⟩, k3, k4⟩ := key
    refine ⟨⟨(Nat.eq_of_beq_eq_true k1).symm.trans e1, ?_⟩, fun j v hv => ?_⟩
    · rw [show (swE e).2.length = e.2.length from List.length_map ..]
      exact (Nat.eq_of_beq_eq_true k2).symm.trans e2
    · have hv : (e.2.map (rl swC))[j]? = some v := hv
      rw [List.getElem?_map] at hv
      cases hu : e.2[j]? with
      | none => rw [hu] at hv; cases hv
      | some u =>
        rw [hu] at hv
        cases hv
        obtain ⟨f1, f2⟩ := e3 j u hu
        refine ⟨swPo_ok k3 f1, fun p hp => ?_⟩
        have hj : j < d.2.2.2.length := by
          rw [aNth_eq] at hp
          exact (List.getElem?_eq_some_iff.mp hp).1
        exact swPo_ok (List.all_eq_true.mp k4 j (List.mem_range.mpr hj)) f2 p hp
  · cases key
end GHSW

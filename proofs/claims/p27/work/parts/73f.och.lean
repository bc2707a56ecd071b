/-! LEFT by a JAR's own rows: settle, stands, for all weeks -/
noncomputable section OCH
theorem mjRn_all {P : mjO → Prop} {Q : Nat → mjO → Prop} {m : Nat} {scr : Option (List Int32)} {d k pc C S : Nat} {ls : mjL} {st : List Value} {H : mjH} (h1 : mjRn P scr [] d k pc ls st H C S) (h2 : ∀ w, w < m → mjRn (Q w) scr [] d k pc ls st H C S) : mjRn (fun o => P o ∧ ∀ w, w < m → Q w o) scr [] d k pc ls st H C S := by
  obtain ⟨f, o, a1, a2⟩ := h1
  refine ⟨f, o, a1, a2, fun w hw => ?_⟩
  obtain ⟨g, o', b1, b2⟩ := h2 w hw
  have e : o = o' := by
    rcases Nat.le_total f g with q | q
    · exact Option.some.inj ((mjEx_mono q _ _ _ _ _ _ _ _ a1).symm.trans b1)
    · exact (Option.some.inj ((mjEx_mono q _ _ _ _ _ _ _ _ b1).symm.trans a1)).symm
  subst e
  exact b2
variable {T : Nat} {V : rdVt} {scr : Option (List Int32)} {H : mjH} {τ : List Int} {cl : mjL}
/-- an end says it too -/
def ocAdd (r : ocTy) (c : sxCt) : sxCt := (c.1, c.2.1, c.2.2.1, c.2.2.2.1, c.2.2.2.2.1.map (fun p => (p.1, p.2.1, p.2.2.1, p.2.2.2.1, p.2.2.2.2.1, p.2.2.2.2.2.1 ++ [(579, (0, Int.ofNat r.1.2), sxOne1)], p.2.2.2.2.2.2.1, p.2.2.2.2.2.2.2)), c.2.2.2.2.2.1, c.2.2.2.2.2.2.1, c.2.2.2.2.2.2.2)
def ocHas (O : sxO) (g : Nat) : Bool := O.any (fun q => Nat.beq q.1 579 && (match q.2.1.1 with | 0 => iEq q.2.1.2 (Int.ofNat g) | _ + 1 => false))
theorem ocHas_ok {O : sxO} {σ : List Int} {g : Nat} (h0 : σ[0]? = some 0) (hO : sxOR (sxVw (ghL T V) scr 579 H) σ O) (h : ocHas O g = true) : ∃ v, ghL T V H g = some v := by
  obtain ⟨q, h1, h2⟩ := List.any_eq_true.mp h
  rw [Bool.and_eq_true] at h2
  obtain ⟨z, v, z1, z2, z3, z4⟩ := hO q h1
  rw [Nat.eq_of_beq_eq_true h2.1] at z3
  have h3 := h2.2
  split at h3
  · rename_i e
    obtain ⟨y, y1, y2⟩ := z1
    rw [e, h0] at y1
    cases Option.some.inj y1
    have h4 := iEq_ok h3
    rw [show z.toNat = g by simp only [Int.ofNat_eq_natCast] at h4; omega] at z3
    exact ⟨v, gvG.symm.trans z3⟩
  · cases h3
/-- for each week the same run: for all weeks -/
theorem ocMain {r : ocTy} {oc c : sxCt} (hr : r ∈ ocTab) (hoc : ∀ (T : Nat) (V : rdVt), sxCtV sxKw (ghL T V) oc) (hc : sxCtV sxKw (ghL T V) c) (hk : c.1 = oc.1) (hn : oc.2.1 ≤ c.2.1) (ht : c.2.2.2.2.2.1 = []) (hto : oc.2.2.2.2.2.1 = []) (hpo : oc.2.2.2.2.1.all (fun p => ocHas p.2.2.2.2.2.1 r.1.1) = true)
    (htr : ∀ (scr : Option (List Int32)) (H : mjH) (τ : List Int) (cl : mjL), sxHR sxKw H → sxPtR T 579 (sxVw (ghL T V) scr 579 H) τ c.2.2.1 cl [] → ∀ w : Nat, w < 52 → ∃ (T' : Nat) (τ' : List Int), tWk T' = w ∧ sxPtR T' 579 (sxVw (ghL T' V) scr 579 H) τ' oc.2.2.1 cl []) : sxCtV sxKw (ghL T V) (ocAdd r c) := by
  intro scr Z d τ cl H hd hH hp hret _
  have hp : sxPtR T 579 (sxVw (ghL T V) scr 579 H) τ c.2.2.1 cl [] := hp
  have hd : c.2.1 ≤ d := hd
  have h1 := hc scr (fun o => ∃ (cv : Option Value) (H' : mjH) (C S : Nat) (τ' : List Int) (p : sxPt), o = (.inl cv, H', C, S) ∧ p ∈ c.2.2.2.2.1 ∧ sxUp τ τ' ∧ sxHR sxKw H' ∧ sxPtR T 579 (sxVw (ghL T V) scr 579 H') τ' p [] cv.toList ∧ sxKp c.2.2.2.1 (sxVw (ghL T V) scr 579 H) (sxVw (ghL T V) scr 579 H') ∧ C ≤ c.2.2.2.2.2.2.1 ∧ S ≤ c.2.2.2.2.2.2.2) d τ cl H hd hH hp (fun cv H' C S τ' p g1 g2 g3 g4 g5 g6 g7 => ⟨cv, H', C, S, τ', p, rfl, g1, g2, g3, g4, g5, g6, g7⟩) (fun E H' C S τ' p g1 => by
    rw [ht] at g1
    cases g1)
  have h2 : ∀ w : Nat, w < 52 → mjRn (fun o => ocP r (w : Int) o.2.1) scr [] d c.1 0 cl [] H 0 0 := by
    intro w hw
    obtain ⟨T', τ', e, hp'⟩ := htr scr H τ cl hH hp w hw
    rw [hk]
    refine hoc T' V scr _ d τ' cl H (Nat.le_trans hn hd) hH hp' (fun cv H' C S τ2 p g1 g2 g3 g4 g5 g6 g7 => ?_) (fun E H' C S τ2 p g1 => by
      rw [hto] at g1
      cases g1)
    have g4 : sxPtR T' 579 (sxVw (ghL T' V) scr 579 H') τ2 p [] cv.toList := g4
    obtain ⟨v, hv⟩ := ocHas_ok g4.1.2 g4.2.2.2.2.2.1 (List.all_eq_true.mp hpo p g1)
    rw [ghL_W hr] at hv
    have hq := (ghB_iff hv).1
    rw [e] at hq
    exact hq
  show mjRn Z scr [] d c.1 0 cl [] H 0 0
  refine mjRn_mo (fun o ho => ?_) (mjRn_all h1 h2)
  obtain ⟨⟨cv, H', C, S, τ', p, rfl, g1, g2, g3, g4, g5, g6, g7⟩, hall⟩ := ho
  obtain ⟨k1, k2, k3, k4, k5, k6, k7, k8⟩ := g4
  refine hret cv H' C S τ' _ (List.mem_map.mpr ⟨p, g1, rfl⟩) g2 g3 ⟨k1, k2, k3, k4, k5, fun q hq => (List.mem_append.mp hq).elim (k6 q) (fun hq => ?_), k7, k8⟩ g5 g6 g7
  cases List.mem_singleton.mp hq
  refine ⟨((r.1.2 : Nat) : Int), .int 1, ⟨0, k1.2, by simp⟩, Int.natCast_nonneg _, ?_, 1, rfl, 0, k1.2, rfl⟩
  show sxVw (ghL T V) scr 579 H' 579 r.1.2 = some (.int 1)
  rw [gvG, ghL_O hr]
  exact ghB_of (fun w hw => hall w hw)
/-- a place of the kind of a long -/
def ocKL (i j : Nat) : Bool := match aGet2 sxKw.1 i with
  | some c => (match Nat.blt j c.2.1 with
    | true => (match (match aNth c.2.2.2 j with | some p => some p | none => c.2.2.1) with
      | some (.inr (true, _)) => true
      | _ => false)
    | false => false)
  | none => false
theorem ocLng {i j : Nat} (hH : sxHR sxKw H) (h : (Nat.blt i 579 && ocKL i j) = true) : ∃ x : Int64, sxEl H i j = some (.long x) := by
  rw [Bool.and_eq_true] at h
  obtain ⟨hi, h⟩ := h
  have hi := bltOk hi
  unfold ocKL at h
  split at h
  · rename_i c hc
    split at h
    · rename_i hj
      have hj := bltOk hj
      obtain ⟨e, e1, ⟨e2, e3⟩, e4⟩ := hH.2 i c hc hi
      have hje : j < e.2.length := by rw [← e3]; exact hj
      have hv : e.2[j]? = some e.2[j] := List.getElem?_eq_getElem hje
      obtain ⟨q1, q2⟩ := e4 j _ hv
      have key : ∃ (lo hi : Int), sxPR (.inr (true, lo, hi)) e.2[j] := by
        cases hp : aNth c.2.2.2 j with
        | some p =>
          rw [hp] at h
          dsimp only at h
          split at h
          · rename_i w hw
            cases hw
            exact ⟨_, _, q2 _ hp⟩
          · cases h
        | none =>
          rw [hp] at h
          dsimp only at h
          split at h
          · rename_i w hw
            exact ⟨_, _, q1 _ hw⟩
          · cases h
      obtain ⟨lo, hi, x, hx, -⟩ := key
      refine ⟨x, ?_⟩
      unfold sxEl
      rw [e1]
      dsimp only
      rw [hv, hx]
    · cases h
  · cases h
/-- a text with these rows, of this week -/
theorem ocRows (T : Nat) (H : mjH) (mc sc wc w : Nat) (hw : w < 52) : ∃ T', T' % tPw 600 = T % tPw 600 ∧ tWk T' = w ∧ (∀ k, k < 12 → tUl T' k = (rwI H mc k).toInt) ∧ (∀ k, k < 5 → tUl T' (17 + k) = (rwI H mc (12 + k)).toInt) ∧ (∀ k, k < 12 → tUl T' (34 + k) = (rwI H sc k).toInt) ∧ ∀ k, k < 12 → tUl T' (51 + k) = (rwI H wc k).toInt := by
  obtain ⟨T', t1, t2⟩ := txU T (fun j => if j < 17 then rwI H mc j else if j < 34 then rwI H mc (12 + (j - 17)) else if j < 51 then rwI H sc (j - 34) else if j < 63 then rwI H wc (j - 51) else Int64.ofInt w)
  have e63 := t2 63 (by decide)
  rw [if_neg (by decide), if_neg (by decide), if_neg (by decide), if_neg (by decide), Int64.toInt_ofInt_of_le (by omega) (by omega)] at e63
  refine ⟨T', t1, ?_, fun k hk => ?_, fun k hk => ?_, fun k hk => ?_, fun k hk => ?_⟩
  · unfold tWk
    rw [e63]
    exact tCl_id (by omega) (by omega)
  · have e := t2 k (by omega)
    rw [if_pos (by omega)] at e
    exact e
  · have e := t2 (17 + k) (by omega)
    rw [if_neg (by omega), if_pos (by omega), show 17 + k - 17 = k by omega] at e
    exact e
  · have e := t2 (34 + k) (by omega)
    rw [if_neg (by omega), if_neg (by omega), if_pos (by omega), show 34 + k - 34 = k by omega] at e
    exact e
  · have e := t2 (51 + k) (by omega)
    rw [if_neg (by omega), if_neg (by omega), if_neg (by omega), if_pos (by omega), show 51 + k - 51 = k by omega] at e
    exact e
theorem ocEl {i j : Nat} {x : Int32} (h : sxEl H i j = some (.int x)) : x.toInt = ghV H i j := by
  unfold ghV
  rw [h]
theorem ocElL {i j : Nat} {x : Int64} (h : sxEl H i j = some (.long x)) : x.toInt = (rwI H i j).toInt := by
  unfold rwI
  rw [h]
theorem ocLs {σ σ' : List Int} {p : sxPt} {m : Nat} (h : sxLR 579 σ p.2.2.2.1 cl) (hg : sxGt p.2.2.2.1 0 = some (.inl m)) : sxLR 579 σ' [(0, .inl m)] cl := by
  refine ⟨fun i a ha => ?_, h.2⟩
  have ha : (match Nat.beq 0 i with | true => some (Sum.inl m : sxV) | false => none) = some a := ha
  cases e : Nat.beq 0 i with
  | true =>
    rw [e] at ha
    cases ha
    have e := Nat.eq_of_beq_eq_true e
    subst e
    exact h.1 0 _ hg
  | false =>
    rw [e] at ha
    cases ha
def ocPre3 : sxPt := (5, [(1, .ofNat 1, .ofNat 6), (2, .negSucc 9223372036854775807, .ofNat 9223372036854775807), (3, .ofNat 0, .ofNat 12), (4, .ofNat 0, .ofNat 51)], [], [(0, .inl 3)], [], [(3, (0, .ofNat 0), .inr (false, (1, .ofNat 0))), (3, (0, .ofNat 1), .inr (true, (2, .ofNat 0))), (3, (0, .ofNat 3), .inr (false, (3, .ofNat 0))), (579, (0, .ofNat 22), .inr (false, (0, .ofNat 1))), (579, (0, .ofNat 23), .inr (false, (0, .ofNat 1))), (579, (0, .ofNat 36), .inr (false, (0, .ofNat 1)))], [], [(62, (0, .ofNat 0), (0, .ofNat 0), (4, .ofNat 0))])
theorem ocTr3 {p : sxPt} (hg : sxGt p.2.2.2.1 0 = some (.inl 3)) (hh : ocHas p.2.2.2.2.2.1 36 = true) (hH : sxHR sxKw H) (hp : sxPtR T 579 (sxVw (ghL T V) scr 579 H) τ p cl []) (w : Nat) (hw : w < 52) : ∃ (T' : Nat) (τ' : List Int), tWk T' = w ∧ sxPtR T' 579 (sxVw (ghL T' V) scr 579 H) τ' ocPre3 cl [] := by
  obtain ⟨p1, p2, p3, p4, p5, p6, p7, p8⟩ := hp
  obtain ⟨T', t1, t2, t3, t4, t5, t6⟩ := ocRows T H 4 6 7 w hw
  obtain ⟨va, hva⟩ := ocHas_ok p1.2 p6 hh
  have hap : rwAp 3 H := (ghB_iff (p := rwAp 3 H) hva).1
  have b1 := rdKR (H := H) (i := 3) (j := 0) (lo := 1) (hi := 6) hH (by decide +kernel)
  have b3 := rdKR (H := H) (i := 3) (j := 3) (lo := 0) (hi := 12) hH (by decide +kernel)
  have b2 := i64_rg (rwI H 3 1)
  obtain ⟨x0, y0⟩ := rdInt (H := H) (i := 3) (j := 0) hH (by decide +kernel)
  obtain ⟨x1, y1⟩ := ocLng (H := H) (i := 3) (j := 1) hH (by decide +kernel)
  obtain ⟨x3, y3⟩ := rdInt (H := H) (i := 3) (j := 3) hH (by decide +kernel)
  have r58 : rwP T' (22, (3, 3), (6, 0), (58, 12)) H := by
    intro k k1 _
    have k1 : k < 12 := k1
    obtain ⟨z, z1, -, z2⟩ := rdNum (i := 6) (j := 0 + k) (lo := -9223372036854775808) (hi := 9223372036854775807) hH (by rw [Nat.zero_add]; exact List.all_eq_true.mp (show (List.range 12).all (fun k => Nat.blt 6 579 && rdKM 6 k (-9223372036854775808) 9223372036854775807) = true by decide +kernel) k (List.mem_range.mpr k1))
    rw [Nat.zero_add] at z2
    refine z1.trans (congrArg some ?_)
    show z = tUl T' (34 + ((k : Int)).toNat)
    rw [show ((k : Int)).toNat = k from rfl, t5 k k1, z2]
  have r59 : rwP T' (23, (3, 3), (7, 0), (59, 12)) H := by
    intro k k1 _
    have k1 : k < 12 := k1
    obtain ⟨z, z1, z3, z2⟩ := rdNum (i := 7) (j := 0 + k) (lo := 0) (hi := 63) hH (by rw [Nat.zero_add]; exact List.all_eq_true.mp (show (List.range 12).all (fun k => Nat.blt 7 579 && rdKM 7 k 0 63) = true by decide +kernel) k (List.mem_range.mpr k1))
    rw [Nat.zero_add] at z2
    refine z1.trans (congrArg some ?_)
    show z = tCl 0 63 (tUl T' (51 + ((k : Int)).toNat))
    rw [show ((k : Int)).toNat = k from rfl, t6 k k1, z2, tCl_id z3.1 z3.2]
  refine ⟨T', [0, ghV H 3 0, (rwI H 3 1).toInt, ghV H 3 3, (w : Int)], t2, ⟨rfl, rfl⟩, fun q hq => ?_, (fun q hq => by cases hq), ocLs p4 hg, trivial, fun q hq => ?_, (fun q hq => by cases hq), fun q hq => ?_⟩
  · simp only [ocPre3, List.mem_cons, List.not_mem_nil, or_false] at hq
    rcases hq with rfl | rfl | rfl | rfl
    · exact ⟨_, rfl, b1.1, b1.2⟩
    · exact ⟨_, rfl, by have := b2.1; simp only [Int.negSucc_eq]; omega, by have := b2.2; simp only [Int.ofNat_eq_natCast]; omega⟩
    · exact ⟨_, rfl, b3.1, b3.2⟩
    · exact ⟨_, rfl, by simp only [Int.ofNat_eq_natCast]; omega, by simp only [Int.ofNat_eq_natCast]; omega⟩
  · simp only [ocPre3, List.mem_cons, List.not_mem_nil, or_false] at hq
    rcases hq with rfl | rfl | rfl | rfl | rfl | rfl
    · exact ⟨0, _, ⟨0, rfl, rfl⟩, by decide, (gvE (show (3 : Nat) < 579 by decide)).trans y0, x0, rfl, _, rfl, by rw [ocEl y0]; simp⟩
    · exact ⟨1, _, ⟨0, rfl, rfl⟩, by decide, (gvE (show (3 : Nat) < 579 by decide)).trans y1, x1, rfl, _, rfl, by rw [ocElL y1]; simp⟩
    · exact ⟨3, _, ⟨0, rfl, rfl⟩, by decide, (gvE (show (3 : Nat) < 579 by decide)).trans y3, x3, rfl, _, rfl, by rw [ocEl y3]; simp⟩
    · exact ⟨22, _, ⟨0, rfl, rfl⟩, by decide, rdOneX (g := 22) rfl r58, 1, rfl, 0, rfl, rfl⟩
    · exact ⟨23, _, ⟨0, rfl, rfl⟩, by decide, rdOneX (g := 23) rfl r59, 1, rfl, 0, rfl, rfl⟩
    · exact ⟨36, .int 1, ⟨0, rfl, rfl⟩, by decide, gvG.trans (ghB_of (p := rwAp 3 H) hap), 1, rfl, 0, rfl, rfl⟩
  · cases List.mem_singleton.mp hq
    exact ⟨0, 0, (w : Int), ⟨0, rfl, rfl⟩, ⟨0, rfl, rfl⟩, ⟨(w : Int), rfl, by simp⟩, t2⟩
theorem ocSet3 {c : sxCt} (hc : sxCtV sxKw (ghL T V) c) (hk : c.1 = oft89.1) (hn : Nat.ble oft89.2.1 c.2.1 = true) (ht : c.2.2.2.2.2.1 = []) (hg : sxGt c.2.2.1.2.2.2.1 0 = some (.inl 3)) (hh : ocHas c.2.2.1.2.2.2.2.2.1 36 = true) : sxCtV sxKw (ghL T V) (ocAdd ocJ3 c) :=
  ocMain (oc := oft89) (by decide) (fun T V => ofv89 ghGd) hc hk (Nat.le_of_ble_eq_true hn) ht rfl (by decide +kernel) (fun scr H τ cl hH hp w hw => ocTr3 hg hh hH hp w hw)
def ocPre11 : sxPt := (5, [(1, .ofNat 1, .ofNat 6), (2, .negSucc 9223372036854775807, .ofNat 9223372036854775807), (3, .ofNat 0, .ofNat 12), (4, .ofNat 0, .ofNat 51)], [], [(0, .inl 11)], [], [(11, (0, .ofNat 0), .inr (false, (1, .ofNat 0))), (11, (0, .ofNat 1), .inr (true, (2, .ofNat 0))), (11, (0, .ofNat 3), .inr (false, (3, .ofNat 0))), (579, (0, .ofNat 30), .inr (false, (0, .ofNat 1))), (579, (0, .ofNat 31), .inr (false, (0, .ofNat 1))), (579, (0, .ofNat 44), .inr (false, (0, .ofNat 1)))], [], [(62, (0, .ofNat 0), (0, .ofNat 0), (4, .ofNat 0))])
theorem ocTr11 {p : sxPt} (hg : sxGt p.2.2.2.1 0 = some (.inl 11)) (hh : ocHas p.2.2.2.2.2.1 44 = true) (hH : sxHR sxKw H) (hp : sxPtR T 579 (sxVw (ghL T V) scr 579 H) τ p cl []) (w : Nat) (hw : w < 52) : ∃ (T' : Nat) (τ' : List Int), tWk T' = w ∧ sxPtR T' 579 (sxVw (ghL T' V) scr 579 H) τ' ocPre11 cl [] := by
  obtain ⟨p1, p2, p3, p4, p5, p6, p7, p8⟩ := hp
  obtain ⟨T', t1, t2, t3, t4, t5, t6⟩ := ocRows T H 12 14 15 w hw
  obtain ⟨va, hva⟩ := ocHas_ok p1.2 p6 hh
  have hap : rwAp 11 H := (ghB_iff (p := rwAp 11 H) hva).1
  have b1 := rdKR (H := H) (i := 11) (j := 0) (lo := 1) (hi := 6) hH (by decide +kernel)
  have b3 := rdKR (H := H) (i := 11) (j := 3) (lo := 0) (hi := 12) hH (by decide +kernel)
  have b2 := i64_rg (rwI H 11 1)
  obtain ⟨x0, y0⟩ := rdInt (H := H) (i := 11) (j := 0) hH (by decide +kernel)
  obtain ⟨x1, y1⟩ := ocLng (H := H) (i := 11) (j := 1) hH (by decide +kernel)
  obtain ⟨x3, y3⟩ := rdInt (H := H) (i := 11) (j := 3) hH (by decide +kernel)
  have r58 : rwP T' (30, (11, 3), (14, 0), (58, 12)) H := by
    intro k k1 _
    have k1 : k < 12 := k1
    obtain ⟨z, z1, -, z2⟩ := rdNum (i := 14) (j := 0 + k) (lo := -9223372036854775808) (hi := 9223372036854775807) hH (by rw [Nat.zero_add]; exact List.all_eq_true.mp (show (List.range 12).all (fun k => Nat.blt 14 579 && rdKM 14 k (-9223372036854775808) 9223372036854775807) = true by decide +kernel) k (List.mem_range.mpr k1))
    rw [Nat.zero_add] at z2
    refine z1.trans (congrArg some ?_)
    show z = tUl T' (34 + ((k : Int)).toNat)
    rw [show ((k : Int)).toNat = k from rfl, t5 k k1, z2]
  have r59 : rwP T' (31, (11, 3), (15, 0), (59, 12)) H := by
    intro k k1 _
    have k1 : k < 12 := k1
    obtain ⟨z, z1, z3, z2⟩ := rdNum (i := 15) (j := 0 + k) (lo := 0) (hi := 63) hH (by rw [Nat.zero_add]; exact List.all_eq_true.mp (show (List.range 12).all (fun k => Nat.blt 15 579 && rdKM 15 k 0 63) = true by decide +kernel) k (List.mem_range.mpr k1))
    rw [Nat.zero_add] at z2
    refine z1.trans (congrArg some ?_)
    show z = tCl 0 63 (tUl T' (51 + ((k : Int)).toNat))
    rw [show ((k : Int)).toNat = k from rfl, t6 k k1, z2, tCl_id z3.1 z3.2]
  refine ⟨T', [0, ghV H 11 0, (rwI H 11 1).toInt, ghV H 11 3, (w : Int)], t2, ⟨rfl, rfl⟩, fun q hq => ?_, (fun q hq => by cases hq), ocLs p4 hg, trivial, fun q hq => ?_, (fun q hq => by cases hq), fun q hq => ?_⟩
  · simp only [ocPre11, List.mem_cons, List.not_mem_nil, or_false] at hq
    rcases hq with rfl | rfl | rfl | rfl
    · exact ⟨_, rfl, b1.1, b1.2⟩
    · exact ⟨_, rfl, by have := b2.1; simp only [Int.negSucc_eq]; omega, by have := b2.2; simp only [Int.ofNat_eq_natCast]; omega⟩
    · exact ⟨_, rfl, b3.1, b3.2⟩
    · exact ⟨_, rfl, by simp only [Int.ofNat_eq_natCast]; omega, by simp only [Int.ofNat_eq_natCast]; omega⟩
  · simp only [ocPre11, List.mem_cons, List.not_mem_nil, or_false] at hq
    rcases hq with rfl | rfl | rfl | rfl | rfl | rfl
    · exact ⟨0, _, ⟨0, rfl, rfl⟩, by decide, (gvE (show (11 : Nat) < 579 by decide)).trans y0, x0, rfl, _, rfl, by rw [ocEl y0]; simp⟩
    · exact ⟨1, _, ⟨0, rfl, rfl⟩, by decide, (gvE (show (11 : Nat) < 579 by decide)).trans y1, x1, rfl, _, rfl, by rw [ocElL y1]; simp⟩
    · exact ⟨3, _, ⟨0, rfl, rfl⟩, by decide, (gvE (show (11 : Nat) < 579 by decide)).trans y3, x3, rfl, _, rfl, by rw [ocEl y3]; simp⟩
    · exact ⟨30, _, ⟨0, rfl, rfl⟩, by decide, rdOneX (g := 30) rfl r58, 1, rfl, 0, rfl, rfl⟩
    · exact ⟨31, _, ⟨0, rfl, rfl⟩, by decide, rdOneX (g := 31) rfl r59, 1, rfl, 0, rfl, rfl⟩
    · exact ⟨44, .int 1, ⟨0, rfl, rfl⟩, by decide, gvG.trans (ghB_of (p := rwAp 11 H) hap), 1, rfl, 0, rfl, rfl⟩
  · cases List.mem_singleton.mp hq
    exact ⟨0, 0, (w : Int), ⟨0, rfl, rfl⟩, ⟨0, rfl, rfl⟩, ⟨(w : Int), rfl, by simp⟩, t2⟩
theorem ocSet11 {c : sxCt} (hc : sxCtV sxKw (ghL T V) c) (hk : c.1 = oft178.1) (hn : Nat.ble oft178.2.1 c.2.1 = true) (ht : c.2.2.2.2.2.1 = []) (hg : sxGt c.2.2.1.2.2.2.1 0 = some (.inl 11)) (hh : ocHas c.2.2.1.2.2.2.2.2.1 44 = true) : sxCtV sxKw (ghL T V) (ocAdd ocJ11 c) :=
  ocMain (oc := oft178) (by decide) (fun T V => ofv178 ghGd) hc hk (Nat.le_of_ble_eq_true hn) ht rfl (by decide +kernel) (fun scr H τ cl hH hp w hw => ocTr11 hg hh hH hp w hw)
def ocPreR : sxPt := (8, [(1, .ofNat 0, .ofNat 6), (2, .ofNat 0, .ofNat 12), (3, .ofNat 0, .ofNat 12), (4, .ofNat 0, .ofNat 5), (5, .ofNat 0, .ofNat 63), (6, .ofNat 0, .ofNat 4), (7, .ofNat 0, .ofNat 51)], [], [(0, .inl 78)], [], [(81, (0, .ofNat 0), .inr (false, (1, .ofNat 0))), (81, (0, .ofNat 1), .inr (false, (2, .ofNat 0))), (81, (0, .ofNat 2), .inr (false, (3, .ofNat 0))), (81, (0, .ofNat 3), .inr (false, (4, .ofNat 0))), (81, (0, .ofNat 4), .inr (false, (5, .ofNat 0))), (81, (0, .ofNat 5), .inr (false, (6, .ofNat 0))), (579, (0, .ofNat 24), .inr (false, (0, .ofNat 1))), (579, (0, .ofNat 25), .inr (false, (0, .ofNat 1))), (579, (0, .ofNat 26), .inr (false, (0, .ofNat 1))), (579, (0, .ofNat 27), .inr (false, (0, .ofNat 1)))], [], [(62, (0, .ofNat 0), (0, .ofNat 0), (7, .ofNat 0))])
theorem ocTrR {p : sxPt} (hg : sxGt p.2.2.2.1 0 = some (.inl 78)) (hH : sxHR sxKw H) (hp : sxPtR T 579 (sxVw (ghL T V) scr 579 H) τ p cl []) (w : Nat) (hw : w < 52) : ∃ (T' : Nat) (τ' : List Int), tWk T' = w ∧ sxPtR T' 579 (sxVw (ghL T' V) scr 579 H) τ' ocPreR cl [] := by
  obtain ⟨p1, p2, p3, p4, p5, p6, p7, p8⟩ := hp
  obtain ⟨T', t1, t2, t3, t4, t5, t6⟩ := ocRows T H 85 87 83 w hw
  have b0 := rdKR (H := H) (i := 81) (j := 0) (lo := 0) (hi := 6) hH (by decide +kernel)
  have b1 := rdKR (H := H) (i := 81) (j := 1) (lo := 0) (hi := 12) hH (by decide +kernel)
  have b2 := rdKR (H := H) (i := 81) (j := 2) (lo := 0) (hi := 12) hH (by decide +kernel)
  have b3 := rdKR (H := H) (i := 81) (j := 3) (lo := 0) (hi := 5) hH (by decide +kernel)
  have b4 := rdKR (H := H) (i := 81) (j := 4) (lo := 0) (hi := 63) hH (by decide +kernel)
  have b5 := rdKR (H := H) (i := 81) (j := 5) (lo := 0) (hi := 4) hH (by decide +kernel)
  obtain ⟨x0, y0⟩ := rdInt (H := H) (i := 81) (j := 0) hH (by decide +kernel)
  obtain ⟨x1, y1⟩ := rdInt (H := H) (i := 81) (j := 1) hH (by decide +kernel)
  obtain ⟨x2, y2⟩ := rdInt (H := H) (i := 81) (j := 2) hH (by decide +kernel)
  obtain ⟨x3, y3⟩ := rdInt (H := H) (i := 81) (j := 3) hH (by decide +kernel)
  obtain ⟨x4, y4⟩ := rdInt (H := H) (i := 81) (j := 4) hH (by decide +kernel)
  obtain ⟨x5, y5⟩ := rdInt (H := H) (i := 81) (j := 5) hH (by decide +kernel)
  have r56 : rwP T' (24, (81, 1), (85, 0), (56, 12)) H := by
    intro k k1 _
    have k1 : k < 12 := k1
    obtain ⟨z, z1, -, z2⟩ := rdNum (i := 85) (j := 0 + k) (lo := -9223372036854775808) (hi := 9223372036854775807) hH (by rw [Nat.zero_add]; exact List.all_eq_true.mp (show (List.range 12).all (fun k => Nat.blt 85 579 && rdKM 85 k (-9223372036854775808) 9223372036854775807) = true by decide +kernel) k (List.mem_range.mpr k1))
    rw [Nat.zero_add] at z2
    refine z1.trans (congrArg some ?_)
    show z = tUl T' ((k : Int)).toNat
    rw [show ((k : Int)).toNat = k from rfl, t3 k k1, z2]
  have r57 : rwP T' (25, (81, 3), (85, 12), (57, 5)) H := by
    intro k k1 _
    have k1 : k < 5 := k1
    obtain ⟨z, z1, -, z2⟩ := rdNum (i := 85) (j := 12 + k) (lo := -9223372036854775808) (hi := 9223372036854775807) hH (List.all_eq_true.mp (show (List.range 5).all (fun k => Nat.blt 85 579 && rdKM 85 (12 + k) (-9223372036854775808) 9223372036854775807) = true by decide +kernel) k (List.mem_range.mpr k1))
    refine z1.trans (congrArg some ?_)
    show z = tUl T' (17 + ((k : Int)).toNat)
    rw [show ((k : Int)).toNat = k from rfl, t4 k k1, z2]
  have r58 : rwP T' (26, (81, 2), (87, 0), (58, 12)) H := by
    intro k k1 _
    have k1 : k < 12 := k1
    obtain ⟨z, z1, -, z2⟩ := rdNum (i := 87) (j := 0 + k) (lo := -9223372036854775808) (hi := 9223372036854775807) hH (by rw [Nat.zero_add]; exact List.all_eq_true.mp (show (List.range 12).all (fun k => Nat.blt 87 579 && rdKM 87 k (-9223372036854775808) 9223372036854775807) = true by decide +kernel) k (List.mem_range.mpr k1))
    rw [Nat.zero_add] at z2
    refine z1.trans (congrArg some ?_)
    show z = tUl T' (34 + ((k : Int)).toNat)
    rw [show ((k : Int)).toNat = k from rfl, t5 k k1, z2]
  have r59 : rwP T' (27, (81, 2), (83, 0), (59, 12)) H := by
    intro k k1 _
    have k1 : k < 12 := k1
    obtain ⟨z, z1, z3, z2⟩ := rdNum (i := 83) (j := 0 + k) (lo := 0) (hi := 63) hH (by rw [Nat.zero_add]; exact List.all_eq_true.mp (show (List.range 12).all (fun k => Nat.blt 83 579 && rdKM 83 k 0 63) = true by decide +kernel) k (List.mem_range.mpr k1))
    rw [Nat.zero_add] at z2
    refine z1.trans (congrArg some ?_)
    show z = tCl 0 63 (tUl T' (51 + ((k : Int)).toNat))
    rw [show ((k : Int)).toNat = k from rfl, t6 k k1, z2, tCl_id z3.1 z3.2]
  refine ⟨T', [0, ghV H 81 0, ghV H 81 1, ghV H 81 2, ghV H 81 3, ghV H 81 4, ghV H 81 5, (w : Int)], t2, ⟨rfl, rfl⟩, fun q hq => ?_, (fun q hq => by cases hq), ocLs p4 hg, trivial, fun q hq => ?_, (fun q hq => by cases hq), fun q hq => ?_⟩
  · simp only [ocPreR, List.mem_cons, List.not_mem_nil, or_false] at hq
    rcases hq with rfl | rfl | rfl | rfl | rfl | rfl | rfl
    · exact ⟨_, rfl, b0.1, b0.2⟩
    · exact ⟨_, rfl, b1.1, b1.2⟩
    · exact ⟨_, rfl, b2.1, b2.2⟩
    · exact ⟨_, rfl, b3.1, b3.2⟩
    · exact ⟨_, rfl, b4.1, b4.2⟩
    · exact ⟨_, rfl, b5.1, b5.2⟩
    · exact ⟨_, rfl, by simp only [Int.ofNat_eq_natCast]; omega, by simp only [Int.ofNat_eq_natCast]; omega⟩
  · simp only [ocPreR, List.mem_cons, List.not_mem_nil, or_false] at hq
    rcases hq with rfl | rfl | rfl | rfl | rfl | rfl | rfl | rfl | rfl | rfl
    · exact ⟨0, _, ⟨0, rfl, rfl⟩, by decide, (gvE (show (81 : Nat) < 579 by decide)).trans y0, x0, rfl, _, rfl, by rw [ocEl y0]; simp⟩
    · exact ⟨1, _, ⟨0, rfl, rfl⟩, by decide, (gvE (show (81 : Nat) < 579 by decide)).trans y1, x1, rfl, _, rfl, by rw [ocEl y1]; simp⟩
    · exact ⟨2, _, ⟨0, rfl, rfl⟩, by decide, (gvE (show (81 : Nat) < 579 by decide)).trans y2, x2, rfl, _, rfl, by rw [ocEl y2]; simp⟩
    · exact ⟨3, _, ⟨0, rfl, rfl⟩, by decide, (gvE (show (81 : Nat) < 579 by decide)).trans y3, x3, rfl, _, rfl, by rw [ocEl y3]; simp⟩
    · exact ⟨4, _, ⟨0, rfl, rfl⟩, by decide, (gvE (show (81 : Nat) < 579 by decide)).trans y4, x4, rfl, _, rfl, by rw [ocEl y4]; simp⟩
    · exact ⟨5, _, ⟨0, rfl, rfl⟩, by decide, (gvE (show (81 : Nat) < 579 by decide)).trans y5, x5, rfl, _, rfl, by rw [ocEl y5]; simp⟩
    · exact ⟨24, _, ⟨0, rfl, rfl⟩, by decide, rdOneX (g := 24) rfl r56, 1, rfl, 0, rfl, rfl⟩
    · exact ⟨25, _, ⟨0, rfl, rfl⟩, by decide, rdOneX (g := 25) rfl r57, 1, rfl, 0, rfl, rfl⟩
    · exact ⟨26, _, ⟨0, rfl, rfl⟩, by decide, rdOneX (g := 26) rfl r58, 1, rfl, 0, rfl, rfl⟩
    · exact ⟨27, _, ⟨0, rfl, rfl⟩, by decide, rdOneX (g := 27) rfl r59, 1, rfl, 0, rfl, rfl⟩
  · cases List.mem_singleton.mp hq
    exact ⟨0, 0, (w : Int), ⟨0, rfl, rfl⟩, ⟨0, rfl, rfl⟩, ⟨(w : Int), rfl, by simp⟩, t2⟩
theorem ocStandsR {c : sxCt} (hc : sxCtV sxKw (ghL T V) c) (hk : c.1 = oft180.1) (hn : Nat.ble oft180.2.1 c.2.1 = true) (ht : c.2.2.2.2.2.1 = []) (hg : sxGt c.2.2.1.2.2.2.1 0 = some (.inl 78)) : sxCtV sxKw (ghL T V) (ocAdd ocF c) :=
  ocMain (oc := oft180) (by decide) (fun T V => ofv180 ghGd) hc hk (Nat.le_of_ble_eq_true hn) ht rfl (by decide +kernel) (fun scr H τ cl hH hp w hw => ocTrR hg hH hp w hw)
end OCH

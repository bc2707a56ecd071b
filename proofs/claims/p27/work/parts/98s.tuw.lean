/-! a case with a week: the text's week is that one -/
noncomputable section TUW
variable {J T : Nat} {V : rdVt} {scr : Option (List Int32)} {Z : mjO → Prop} {d : Nat} {H : mjH} {τ : List Int} {cl : mjL} {cs : List Value}
theorem ocWeek (T w : Nat) (hw : w < 52) : ∃ T', T' % tPw 600 = T % tPw 600 ∧ (∀ j, j < 63 → tUl T' j = tUl T j) ∧ tWk T' = w := by
  obtain ⟨T', t1, t2⟩ := txU T (fun j => if j < 63 then Int64.ofNat (tUn T j) else Int64.ofInt w)
  refine ⟨T', t1, fun j hj => ?_, ?_⟩
  · have e := t2 j (by omega)
    rw [if_pos hj] at e
    exact e
  · have e := t2 63 (by decide)
    rw [if_neg (by decide), Int64.toInt_ofInt_of_le (by omega) (by omega)] at e
    unfold tWk
    rw [e]
    exact tCl_id (by omega) (by omega)
theorem rwP_Wk {T T' : Nat} {r : rwR} (hu : ∀ j, j < 63 → tUl T' j = tUl T j) (hr : r ∈ rwTab) : rwP T r H ↔ rwP T' r H := by
  have key : ∀ k, k < r.2.2.2.2 → sxSem T r.2.2.2.1 (k : Nat) 0 = sxSem T' r.2.2.2.1 (k : Nat) 0 := by
    intro k hk
    have h2 : rwTab.all (fun r => (Nat.beq r.2.2.2.1 56 && Nat.ble r.2.2.2.2 12) || ((Nat.beq r.2.2.2.1 57 && Nat.ble r.2.2.2.2 5) || ((Nat.beq r.2.2.2.1 58 && Nat.ble r.2.2.2.2 12) || (Nat.beq r.2.2.2.1 59 && Nat.ble r.2.2.2.2 12)))) = true := by decide +kernel
    have h3 := List.all_eq_true.mp h2 r hr
    simp only [Bool.or_eq_true, Bool.and_eq_true] at h3
    have ek : ((k : Int)).toNat = k := rfl
    rcases h3 with ⟨h4, h5⟩ | ⟨h4, h5⟩ | ⟨h4, h5⟩ | ⟨h4, h5⟩ <;> rw [Nat.eq_of_beq_eq_true h4] <;> have h5 := Nat.le_of_ble_eq_true h5
    · show tUl T ((k : Int)).toNat = tUl T' ((k : Int)).toNat
      rw [ek, hu k (by omega)]
    · show tUl T (17 + ((k : Int)).toNat) = tUl T' (17 + ((k : Int)).toNat)
      rw [ek, hu (17 + k) (by omega)]
    · show tUl T (34 + ((k : Int)).toNat) = tUl T' (34 + ((k : Int)).toNat)
      rw [ek, hu (34 + k) (by omega)]
    · show tCl 0 63 (tUl T (51 + ((k : Int)).toNat)) = tCl 0 63 (tUl T' (51 + ((k : Int)).toNat))
      rw [ek, hu (51 + k) (by omega)]
  unfold rwP
  exact ⟨fun q k k1 k2 => by rw [← key k k1]; exact q k k1 k2, fun q k k1 k2 => by rw [key k k1]; exact q k k1 k2⟩
/-- places that don't speak of the text's week -/
def tuWkG (z : Int) : Bool := iLe 0 z && (iLe z 6 || ((iLe 20 z && iLe z 36) || (iEq z 38 || (iEq z 40 || (iEq z 44 || iEq z 46)))))
theorem ghL_Wk {T T' : Nat} {g : Nat} (hm : T' % tPw 600 = T % tPw 600) (hu : ∀ j, j < 63 → tUl T' j = tUl T j) (hg : tuWkG (g : Int) = true) : ghL T v00 H g = ghL T' v00 H g := by
  unfold tuWkG at hg
  simp only [Bool.and_eq_true, Bool.or_eq_true] at hg
  obtain ⟨-, hg⟩ := hg
  have cas : g ≤ 6 ∨ (20 ≤ g ∧ g ≤ 36) ∨ g = 38 ∨ g = 40 ∨ g = 44 ∨ g = 46 := by
    rcases hg with h | ⟨h1, h2⟩ | h | h | h | h
    · have := iLe_ok h; omega
    · have := iLe_ok h1; have := iLe_ok h2; omega
    · have := iEq_ok h; omega
    · have := iEq_ok h; omega
    · have := iEq_ok h; omega
    · have := iEq_ok h; omega
  rcases cas with h | ⟨h1, h2⟩ | rfl | rfl | rfl | rfl
  · match g, h with
    | 0, _ => rfl
    | 1, _ => rfl
    | 2, _ => rfl
    | 3, _ => rfl
    | 4, _ => rfl
    | 5, _ => exact ghB_congr ⟨fun q => ghP5_mod hm q, fun q => ghP5_mod hm.symm q⟩
    | 6, _ => exact ghB_congr ⟨fun q => ghP6_mod hm q, fun q => ghP6_mod hm.symm q⟩
    | n + 7, h => exact absurd h (by omega)
  · by_cases e : g = 36
    · subst e
      rfl
    · obtain ⟨n, rfl⟩ : ∃ n, g = n + 7 := ⟨g - 7, by omega⟩
      show ghX T v00 H n = ghX T' v00 H n
      have e1 : Nat.blt n 13 = false := by
        cases e : Nat.blt n 13 with
        | false => rfl
        | true => have := bltOk e; omega
      have e2 : Nat.blt n 29 = true := Nat.ble_eq.mpr (show n + 1 ≤ 29 by omega)
      unfold ghX
      rw [e1, e2]
      dsimp only
      unfold ghR
      split
      · rename_i r hr
        rw [rwB_congr (rwP_Wk hu (rwGet_mem hr).1)]
      · rfl
  · rfl
  · rfl
  · rfl
  · rfl
theorem tuOWk {T T' : Nat} {σ : List Int} {O : sxO} (h0 : σ[0]? = some 0) (h : sxOR (sxVw (ghL T v00) scr 579 H) σ O) (hm : T' % tPw 600 = T % tPw 600) (hu : ∀ j, j < 63 → tUl T' j = tUl T j) (hc : O.all (fun q => match Nat.beq q.1 579 with | false => (match Nat.beq q.1 580 with | true => false | false => true) | true => match Nat.beq q.2.1.1 0 with | true => tuWkG q.2.1.2 | false => false) = true) : sxOR (sxVw (ghL T' v00) scr 579 H) σ O := by
  intro q hq
  have hb := List.all_eq_true.mp hc q hq
  obtain ⟨z, v, a1, a2, a3, a4⟩ := h q hq
  refine ⟨z, v, a1, a2, ?_, a4⟩
  by_cases e : q.1 = 579
  · rw [e] at hb a3 ⊢
    dsimp only at hb
    split at hb
    · rename_i e1
      obtain ⟨y, y1, y2⟩ := a1
      rw [Nat.eq_of_beq_eq_true e1, h0] at y1
      cases Option.some.inj y1
      rw [gvG] at a3 ⊢
      rw [← ghL_Wk (T := T) hm hu (by rw [show ((z.toNat : Nat) : Int) = q.2.1.2 by omega]; exact hb)]
      exact a3
    · cases hb
  · rw [← rdVwT (T := T) (V := v00)]
    · exact a3
    · rintro ⟨g, -⟩
      exact e g
    · intro g
      rw [g] at hb
      exact absurd (show false = true from hb) (by decide)
/-- the script's numbers behind the case's own -/
def tuArg (xs : List Int32) (i : Nat) (na : Nat) : List Int := (List.range na).map (fun k => (xs.getD (i + 1 + k) 0).toInt)
def tuPw (J na kw : Nat) (lo hi : Int) (F : sxF) : sxPt := (18 + na, (tuPc J).2.1 ++ (List.range na).map (fun k => (18 + k, match Nat.beq k kw with | true => (lo, hi) | false => (.negSucc 2147483647, .ofNat 2147483647))), (tuPc J).2.2.1, (tuPc J).2.2.2.1, [], (tuPc J).2.2.2.2.2.1 ++ (List.range na).map (fun k => (3000000, (3, .ofNat (k + 1)), .inr (false, (18 + k, .ofNat 0)))), [], F)
theorem tuNumA (hp : sxPtR T 579 (sxVw (ghL T v00) scr 579 H) τ (tuPc J) cl []) (hsl : sxSl τ (some (1, 0)) scr) : ∃ (xs : List Int32) (i : Int), scr = some xs ∧ τ[3]? = some i ∧ 0 ≤ i ∧ i.toNat + 6 ≤ xs.length := by
  obtain ⟨xs, s1, s2, y, s3, s4⟩ := hsl
  obtain ⟨p1, p2, p3, -⟩ := hp
  obtain ⟨i, i1, i2, i3⟩ := p2 (3, .ofNat 0, .ofNat 3066) (by simp [tuPc])
  obtain ⟨a, b, g1, g2, g3⟩ := p3 (3, 1, .negSucc 5) (by simp [tuPc])
  dsimp only at i1 i2 g1 g2 g3 s3 s4
  rw [i1] at g1
  cases Option.some.inj g1
  rw [s3] at g2
  cases Option.some.inj g2
  have e6 : Int.negSucc 5 = -6 := rfl
  rw [e6] at g3
  simp only [Int.ofNat_eq_natCast] at i2
  exact ⟨xs, i, s1, i1, by omega, by omega⟩
theorem tuArg_at {xs : List Int32} {i na k : Nat} (hk : k < na) : (tuArg xs i na)[k]? = some (xs.getD (i + 1 + k) 0).toInt := by
  unfold tuArg
  rw [List.getElem?_map, List.getElem?_range hk]
  rfl
theorem tuExtA {T' na kw : Nat} {lo hi : Int} {F : sxF} {xs : List Int32} {i : Int} (hna : na ≤ 5) (hp : sxPtR T 579 (sxVw (ghL T v00) scr 579 H) τ (tuPc J) cl []) (hl : τ.length = 18) (hxs : scr = some xs) (hi3 : τ[3]? = some i) (hi0 : 0 ≤ i) (hlen : i.toNat + 6 ≤ xs.length)
    (hO : sxOR (sxVw (ghL T' v00) scr 579 H) τ (tuPc J).2.2.2.2.2.1) (hw : kw < na → lo ≤ (xs.getD (i.toNat + 1 + kw) 0).toInt ∧ (xs.getD (i.toNat + 1 + kw) 0).toInt ≤ hi) (hF : ∀ q ∈ F, sxFt T' (τ ++ tuArg xs i.toNat na) q) : sxPtR T' 579 (sxVw (ghL T' v00) scr 579 H) (τ ++ tuArg xs i.toNat na) (tuPw J na kw lo hi F) cl [] := by
  obtain ⟨p1, p2, p3, p4, p5, p6, p7, p8⟩ := hp
  have up : sxUp τ (τ ++ tuArg xs i.toNat na) := sxUp.app _ _
  have ea : ∀ k, k < na → (τ ++ tuArg xs i.toNat na)[18 + k]? = some (xs.getD (i.toNat + 1 + k) 0).toInt := by
    intro k hk
    rw [List.getElem?_append_right (by omega), hl, show 18 + k - 18 = k by omega]
    exact tuArg_at hk
  have hla : (tuArg xs i.toNat na).length = na := by
    unfold tuArg
    rw [List.length_map, List.length_range]
  refine ⟨⟨by rw [List.length_append, hl, hla]; rfl, up _ _ p1.2⟩, fun q hq => ?_, fun q hq => (p3 q hq).up up, p4.up up, trivial, fun q hq => ?_, (fun q hq => by cases hq), hF⟩
  · rcases List.mem_append.mp hq with hq | hq
    · exact (p2 q hq).up up
    · obtain ⟨k, hk, rfl⟩ := List.mem_map.mp hq
      have hk := List.mem_range.mp hk
      refine ⟨_, ea k hk, ?_⟩
      cases e : Nat.beq k kw with
      | true =>
        have e := Nat.eq_of_beq_eq_true e
        subst e
        exact hw hk
      | false =>
        have h1 := Int32.le_toInt (xs.getD (i.toNat + 1 + k) 0)
        have h2 := Int32.toInt_lt (xs.getD (i.toNat + 1 + k) 0)
        exact ⟨by dsimp only; simp only [Int.negSucc_eq]; omega, by dsimp only; simp only [Int.ofNat_eq_natCast]; omega⟩
  · rcases List.mem_append.mp hq with hq | hq
    · obtain ⟨z, v, a1, a2, a3, a4⟩ := hO q hq
      exact ⟨z, v, a1.up up, a2, a3, a4.up up⟩
    · obtain ⟨k, hk, rfl⟩ := List.mem_map.mp hq
      have hk := List.mem_range.mp hk
      refine ⟨i + ((k + 1 : Nat) : Int), .int (xs.getD (i.toNat + 1 + k) 0), ⟨i, up _ _ hi3, rfl⟩, by omega, ?_, _, rfl, _, ea k hk, by simp⟩
      show sxVw (ghL T' v00) scr 579 H 3000000 (i + ((k + 1 : Nat) : Int)).toNat = some (.int (xs.getD (i.toNat + 1 + k) 0))
      unfold sxVw
      rw [if_neg (by decide), if_neg (by decide), if_pos (by decide), hxs]
      dsimp only
      rw [show (i + ((k + 1 : Nat) : Int)).toNat = i.toNat + 1 + k by omega, List.getD_eq_getElem?_getD, List.getElem?_eq_getElem (show i.toNat + 1 + k < xs.length by omega)]
      rfl
/-- from such a start all goes well -/
def tuGoP (J pc : Nat) (P : sxPt) : Prop := ∀ (T : Nat) (scr : Option (List Int32)) (Z : mjO → Prop) (d : Nat) (σ : List Int) (cl : mjL) (H : mjH), tuNeed ≤ d → sxHR sxKw H → sxPtR T 579 (sxVw (ghL T v00) scr 579 H) σ P cl [] → σ[2]? = some (tLn T : Int) → sxSl σ (some (1, 0)) scr → tuGoOn scr Z d σ → tuEnd Z → mjRn Z scr [] d mjLaw pc cl [] H 0 0
theorem tuSegW {P : sxPt} {sp : List (Nat × Nat × Nat)} {cs : List sxCt} {pc : Nat} (hJ : J = 3 ∨ J = 11) (n : Nat) (h : sxGo1 (tuJ J sp cs) (some tuMe) n (sxSt mjLaw pc P 0 0) = true) (hV : ∀ c ∈ cs, sxCtV sxKw (ghL T v00) c) (hd : tuNeed ≤ d) (hH : sxHR sxKw H) (hp : sxPtR T 579 (sxVw (ghL T v00) scr 579 H) τ P cl []) (hP : 3 < P.1) (hb : τ[2]? = some (tLn T : Int)) (hsl : sxSl τ (some (1, 0)) scr) (hgo : tuGoOn scr Z d τ) (hend : tuEnd Z) : mjRn Z scr [] d mjLaw pc cl [] H 0 0 := by
  have hl : 3 < τ.length := by rw [hp.1.1]; exact hP
  have hu : sxUp (τ.take 3) τ := by
    intro s z hs
    rw [List.getElem?_take] at hs
    split at hs
    · exact hs
    · cases hs
  have upi : ∀ τ', sxUp (τ.take 3) τ' → ∀ i, i < 3 → τ'[i]? = τ[i]? := by
    intro τ' h1 i hi
    have e : τ[i]? = some τ[i] := List.getElem?_eq_getElem (by omega)
    rw [e]
    exact h1 i _ (by rw [List.getElem?_take, if_pos hi, e])
  refine sxSegX (J := tuJ J sp cs) (p := P) (C0 := 0) (S0 := 0) (v0 := sxVw (ghL T v00) scr 579 H) (τ0 := τ.take 3) (τ := τ) (me := some tuMe) n h ghGd (show sxKw.2.1 < mjScr by decide) (show 0 < 3 by decide) hV hd hu (by rw [List.length_take]; show min 3 τ.length = 3; omega) (fun b hb => ?_) hsl hp hH sxKp.rf (Nat.le_refl _) (Nat.le_refl _) ?_ ?_ (fun q hq => (by cases hq))
  · cases hb
    unfold sxMin tuMe
    refine ⟨⟨?_, ?_⟩, ⟨?_, ?_⟩, ?_, ?_⟩ <;> dsimp only <;> omega
  · intro u hu' τ' cl' cs' H' C S g1 g2 g3 g4 g5 g6 g7
    cases List.mem_singleton.mp hu'
    refine hgo J T τ' cl' cs' H' C S hJ (upi τ' g1 1 (by decide)) ((upi τ' g1 2 (by decide)).trans hb) g2 g3 g5 g6 ?_
    have := g7 _ rfl
    unfold sxLt3 sxMvs tuMe at this
    dsimp only at this
    rw [tuMv0, tuMv0] at this
    omega
  · intro p hp' cv τ' H' C S g1 g2 g3 g4 g5 g6
    cases List.mem_singleton.mp hp'
    obtain ⟨x, rfl, hx⟩ := tuRes g2
    exact hend x H' C S hx g5 g6
theorem tuGoP_seg {P : sxPt} {sp : List (Nat × Nat × Nat)} {cs : List sxCt} {pc : Nat} (hJ : J = 3 ∨ J = 11) (n : Nat) (h : sxGo1 (tuJ J sp cs) (some tuMe) n (sxSt mjLaw pc P 0 0) = true) (hV : ∀ {T : Nat}, ∀ c ∈ cs, sxCtV sxKw (ghL T v00) c) (hP : Nat.blt 3 P.1 = true) : tuGoP J pc P :=
  fun T scr Z d σ cl H hd hH hp hb hsl hgo hend => tuSegW (T := T) hJ n h hV hd hH hp (bltOk hP) hb hsl hgo hend
/-- ahead of the weeks, behind them, in them -/
theorem tuWeek {na kw pc : Nat} {Pl Ph Pi : sxPt} (hJ : J = 3 ∨ J = 11) (hk : kw < na) (hna : na ≤ 5) (gl : tuGoP J pc Pl) (gh : tuGoP J pc Ph) (gi : tuGoP J pc Pi)
    (el : Pl = tuPw J na kw (.negSucc 2147483647) (.negSucc 0) []) (eh : Ph = tuPw J na kw (.ofNat 52) (.ofNat 2147483647) []) (ei : Pi = tuPw J na kw (.ofNat 0) (.ofNat 51) [(40, (0, .ofNat 0), (0, .ofNat 0), (2, .ofNat 0)), (62, (0, .ofNat 0), (0, .ofNat 0), (18 + kw, .ofNat 0))]) : tuGoodJ J pc := by
  intro T scr Z d τ cl H hd hH hp hb hsl hgo hend
  subst el eh ei
  obtain ⟨xs, i, hxs, hi3, hi0, hlen⟩ := tuNumA hp hsl
  have hlt : τ.length = 18 := hp.1.1
  have up : sxUp τ (τ ++ tuArg xs i.toNat na) := sxUp.app _ _
  have hsl6 : sxSl (τ ++ tuArg xs i.toNat na) (some (1, 0)) scr := by
    obtain ⟨ys, s1, s2, y, s3, s4⟩ := hsl
    exact ⟨ys, s1, s2, y, up _ _ s3, s4⟩
  have hgo6 := tuGoOn6 (L := tuArg xs i.toNat na) hlt hgo
  have h1 := Int32.le_toInt (xs.getD (i.toNat + 1 + kw) 0)
  have h2 := Int32.toInt_lt (xs.getD (i.toNat + 1 + kw) 0)
  by_cases c1 : (xs.getD (i.toNat + 1 + kw) 0).toInt < 0
  · exact gl T scr Z d _ cl H hd hH (tuExtA hna hp hlt hxs hi3 hi0 hlen hp.2.2.2.2.2.1 (fun _ => ⟨by simp only [Int.negSucc_eq]; omega, by simp only [Int.negSucc_eq]; omega⟩) (fun q hq => by cases hq)) (up _ _ hb) hsl6 hgo6 hend
  · by_cases c2 : 51 < (xs.getD (i.toNat + 1 + kw) 0).toInt
    · exact gh T scr Z d _ cl H hd hH (tuExtA hna hp hlt hxs hi3 hi0 hlen hp.2.2.2.2.2.1 (fun _ => ⟨by simp only [Int.ofNat_eq_natCast]; omega, by simp only [Int.ofNat_eq_natCast]; omega⟩) (fun q hq => by cases hq)) (up _ _ hb) hsl6 hgo6 hend
    · obtain ⟨T', t1, t2, t3⟩ := ocWeek T (xs.getD (i.toNat + 1 + kw) 0).toInt.toNat (by omega)
      have hO := tuOWk hp.1.2 hp.2.2.2.2.2.1 t1 t2 (by rcases hJ with rfl | rfl <;> decide +kernel)
      have hb' : (τ ++ tuArg xs i.toNat na)[2]? = some (tLn T' : Int) := by rw [tLn_mod t1]; exact up _ _ hb
      have hz0 : (τ ++ tuArg xs i.toNat na)[0]? = some 0 := up _ _ hp.1.2
      refine gi T' scr Z d _ cl H hd hH (tuExtA hna hp hlt hxs hi3 hi0 hlen hO (fun _ => ⟨by simp only [Int.ofNat_eq_natCast]; omega, by simp only [Int.ofNat_eq_natCast]; omega⟩) (fun q hq => ?_)) hb' hsl6 hgo6 hend
      simp only [List.mem_cons, List.not_mem_nil, or_false] at hq
      rcases hq with rfl | rfl
      · exact ⟨0, 0, (tLn T' : Int), ⟨0, hz0, rfl⟩, ⟨0, hz0, rfl⟩, ⟨_, hb', by simp⟩, rfl⟩
      · refine ⟨0, 0, (xs.getD (i.toNat + 1 + kw) 0).toInt, ⟨0, hz0, rfl⟩, ⟨0, hz0, rfl⟩, ⟨(xs.getD (i.toNat + 1 + kw) 0).toInt, ?_, by simp⟩, ?_⟩
        · show (τ ++ tuArg xs i.toNat na)[18 + kw]? = some _
          rw [List.getElem?_append_right (by omega), hlt, show 18 + kw - 18 = kw by omega]
          exact tuArg_at hk
        · show tWk T' = _
          rw [t3]
          omega
end TUW

/-! SX: the law's turn told by halves of a range -/
section TUHALF
variable {J : Nat} {T : Nat} {scr : Option (List Int32)} {Z : mjO → Prop} {d : Nat} {τ : List Int} {cl : mjL} {H : mjH}
def tuGoH (J pc : Nat) (P : sxPt) : Prop := ∀ (T : Nat) (scr : Option (List Int32)) (Z : mjO → Prop) (d : Nat) (σ : List Int) (cl : mjL) (H : mjH), tuNeed ≤ d → sxHR sxKw H → sxPtR T 579 (sxVw (ghL T v00) scr 579 H) σ P cl [] → σ[2]? = some (tLn T : Int) → sxSl σ (some (1, 0)) scr → tuGoOn scr Z d σ → tuEnd Z → mjRn Z scr [] d mjLaw pc cl [] H 0 0
theorem tuSegH {P : sxPt} {sp : List (Nat × Nat × Nat)} {cs : List sxCt} {pc : Nat} (hJ : J = 3 ∨ J = 11) (n : Nat) (h : sxGo1 (tuJ J sp cs) (some tuMe) n (sxSt mjLaw pc P 0 0) = true) (hV : ∀ c ∈ cs, sxCtV sxKw (ghL T v00) c) (hd : tuNeed ≤ d) (hH : sxHR sxKw H) (hp : sxPtR T 579 (sxVw (ghL T v00) scr 579 H) τ P cl []) (hP : 3 < P.1) (hb : τ[2]? = some (tLn T : Int)) (hsl : sxSl τ (some (1, 0)) scr) (hgo : tuGoOn scr Z d τ) (hend : tuEnd Z) : mjRn Z scr [] d mjLaw pc cl [] H 0 0 := by
  have hl : 3 < τ.length := by rw [hp.1.1]; exact hP
  have hu : sxUp (τ.take 3) τ := by
    intro s z hs
    rw [List.getElem?_take] at hs
    split at hs
    · exact hs
    · cases hs
  have upi : ∀ τ', sxUp (τ.take 3) τ' → ∀ i, i < 3 → τ'[i]? = τ[i]? := by
    intro τ' h1 i hi
    have e : τ[i]? = some τ[i] := List.getElem?_eq_getElem (by omega)
    rw [e]
    exact h1 i _ (by rw [List.getElem?_take, if_pos hi, e])
  refine sxSegX (J := tuJ J sp cs) (p := P) (C0 := 0) (S0 := 0) (v0 := sxVw (ghL T v00) scr 579 H) (τ0 := τ.take 3) (τ := τ) (me := some tuMe) n h ghGd (show sxKw.2.1 < mjScr by decide) (show 0 < 3 by decide) hV hd hu (by rw [List.length_take]; show min 3 τ.length = 3; omega) (fun b hb => ?_) hsl hp hH sxKp.rf (Nat.le_refl _) (Nat.le_refl _) ?_ ?_ (fun q hq => (by cases hq))
  · cases hb
    unfold sxMin tuMe
    refine ⟨⟨?_, ?_⟩, ⟨?_, ?_⟩, ?_, ?_⟩ <;> dsimp only <;> omega
  · intro u hu' τ' cl' cs' H' C S g1 g2 g3 g4 g5 g6 g7
    cases List.mem_singleton.mp hu'
    refine hgo J T τ' cl' cs' H' C S hJ (upi τ' g1 1 (by decide)) ((upi τ' g1 2 (by decide)).trans hb) g2 g3 g5 g6 ?_
    have := g7 _ rfl
    unfold sxLt3 sxMvs tuMe at this
    dsimp only at this
    rw [tuMv0, tuMv0] at this
    omega
  · intro p hp' cv τ' H' C S g1 g2 g3 g4 g5 g6
    cases List.mem_singleton.mp hp'
    obtain ⟨x, rfl, hx⟩ := tuRes g2
    exact hend x H' C S hx g5 g6
theorem tuGoH_seg {P : sxPt} {sp : List (Nat × Nat × Nat)} {cs : List sxCt} {pc : Nat} (hJ : J = 3 ∨ J = 11) (n : Nat) (h : sxGo1 (tuJ J sp cs) (some tuMe) n (sxSt mjLaw pc P 0 0) = true) (hV : ∀ {T : Nat}, ∀ c ∈ cs, sxCtV sxKw (ghL T v00) c) (hP : Nat.blt 3 P.1 = true) : tuGoH J pc P :=
  fun T scr Z d σ cl H hd hH hp hb hsl hgo hend => tuSegH (T := T) hJ n h hV hd hH hp (bltOk hP) hb hsl hgo hend
/-- a number of the pattern, within narrower bounds -/
def ptD (s : Nat) (lo hi : Int) (P : sxPt) : sxPt := (P.1, P.2.1.map (fun q => if q.1 = s then (s, lo, hi) else q), P.2.2)
theorem ptD_ok {P : sxPt} {s : Nat} {lo hi z : Int} {vw : Nat → Nat → Option Value} {σ : List Int} {cs : List Value} (hp : sxPtR T 579 vw σ P cl cs) (h1 : σ[s]? = some z) (h2 : lo ≤ z) (h3 : z ≤ hi) : sxPtR T 579 vw σ (ptD s lo hi P) cl cs := by
  refine ⟨hp.1, fun q hq => ?_, hp.2.2⟩
  obtain ⟨q0, q1, q2⟩ := List.mem_map.mp hq
  by_cases c : q0.1 = s
  · rw [if_pos c] at q2
    rw [← q2]
    exact ⟨z, h1, h2, h3⟩
  · rw [if_neg c] at q2
    rw [← q2]
    exact hp.2.1 q0 q1
theorem tuD2 {pc : Nat} (s : Nat) (lo mid hi : Int) (hs : (s, lo, hi) ∈ (tuPc J).2.1) (h1 : tuGoH J pc (ptD s lo mid (tuPc J))) (h2 : tuGoH J pc (ptD s (mid + 1) hi (tuPc J))) : tuGoodJ J pc := by
  intro T scr Z d σ cl H hd hH hp hb hsl hgo hend
  obtain ⟨z, z1, z2, z3⟩ := hp.2.1 _ hs
  by_cases c : z ≤ mid
  · exact h1 T scr Z d σ cl H hd hH (ptD_ok hp z1 z2 c) hb hsl hgo hend
  · exact h2 T scr Z d σ cl H hd hH (ptD_ok hp z1 (by omega) z3) hb hsl hgo hend
end TUHALF

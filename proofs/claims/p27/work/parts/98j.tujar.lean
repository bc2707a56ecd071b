/-! jar's turn: what stands ahead -/
section TUJAR
def tuJ6 (J : Nat) (D : sxD) (E : sxE) (F : sxF) : sxPt := (19, (tuPc J).2.1 ++ D, (tuPc J).2.2.1 ++ E, (tuPc J).2.2.2.1, [], (tuPc J).2.2.2.2.2.1 ++ [(3000000, (3, .ofNat 1), .inr (false, (18, .ofNat 0)))], [], F)
/-- where the JAR is told anew: nothing is known of the rows that stand -/
noncomputable def tuPq (J : Nat) : sxPt := ((tuPc J).1, (tuPc J).2.1, (tuPc J).2.2.1, (tuPc J).2.2.2.1, (tuPc J).2.2.2.2.1, (tuPc J).2.2.2.2.2.1.filter (fun q => match Nat.beq q.1 579 with | false => true | true => iLe q.2.1.2 6), [], [])
def tuJ8 (P : sxPt) (D : sxD) (E : sxE) (F : sxF) : sxPt := (P.1 + 1, P.2.1 ++ D, P.2.2.1 ++ E, P.2.2.2.1, [], P.2.2.2.2.2.1 ++ [(3000000, (3, .ofNat 1), .inr (false, (P.1, .ofNat 0)))], [], F)
variable {J T : Nat} {V : rdVt} {scr : Option (List Int32)} {H : mjH} {τ : List Int} {cl : mjL} {cs : List Value}
theorem tuExt {T' : Nat} {D : sxD} {E : sxE} {F : sxF} {xs : List Int32} {x : Int32} {i : Int} (hp : sxPtR T 579 (sxVw (ghL T v00) scr 579 H) τ (tuPc J) cl []) (hxs : scr = some xs) (hi : τ[3]? = some i) (hi0 : 0 ≤ i) (hx : xs[i.toNat + 1]? = some x)
    (hO : sxOR (sxVw (ghL T' V) scr 579 H) τ (tuPc J).2.2.2.2.2.1) (hD : ∀ q ∈ D, sxIn (τ ++ [x.toInt]) q) (hE : ∀ q ∈ E, sxDf (τ ++ [x.toInt]) q) (hF : ∀ q ∈ F, sxFt T' (τ ++ [x.toInt]) q) : sxPtR T' 579 (sxVw (ghL T' V) scr 579 H) (τ ++ [x.toInt]) (tuJ6 J D E F) cl [] := by
  obtain ⟨p1, p2, p3, p4, p5, p6, p7, p8⟩ := hp
  have hl : τ.length = 18 := p1.1
  have up : sxUp τ (τ ++ [x.toInt]) := sxUp.app _ _
  have e5 : (τ ++ [x.toInt])[18]? = some x.toInt := by rw [List.getElem?_append_right (by omega), hl]; rfl
  refine ⟨⟨by rw [List.length_append, hl]; rfl, up _ _ p1.2⟩, fun q hq => ?_, fun q hq => ?_, p4.up up, trivial, fun q hq => ?_, (fun q hq => by cases hq), hF⟩
  · rcases List.mem_append.mp hq with hq | hq
    · obtain ⟨z, z1, z2⟩ := p2 q hq
      exact ⟨z, up _ _ z1, z2⟩
    · exact hD q hq
  · rcases List.mem_append.mp hq with hq | hq
    · obtain ⟨a, b, z1, z2, z3⟩ := p3 q hq
      exact ⟨a, b, up _ _ z1, up _ _ z2, z3⟩
    · exact hE q hq
  · rcases List.mem_append.mp hq with hq | hq
    · obtain ⟨z, v, a1, a2, a3, a4⟩ := hO q hq
      exact ⟨z, v, a1.up up, a2, a3, a4.up up⟩
    · cases List.mem_singleton.mp hq
      refine ⟨i + 1, .int x, ⟨i, up _ _ hi, rfl⟩, by omega, ?_, x, rfl, _, e5, by simp⟩
      show sxVw (ghL T' V) scr 579 H 3000000 (i + 1).toNat = some (.int x)
      unfold sxVw
      rw [if_neg (by decide), if_neg (by decide), if_pos (by decide), hxs]
      dsimp only
      rw [show (i + 1).toNat = i.toNat + 1 by omega, hx]
      rfl
theorem tuExt8 {P : sxPt} {T' : Nat} {D : sxD} {E : sxE} {F : sxF} {xs : List Int32} {x : Int32} {i : Int} (hp : sxPtR T 579 (sxVw (ghL T v00) scr 579 H) τ P cl []) (hxs : scr = some xs) (hi : τ[3]? = some i) (hi0 : 0 ≤ i) (hx : xs[i.toNat + 1]? = some x)
    (hO : sxOR (sxVw (ghL T' V) scr 579 H) τ P.2.2.2.2.2.1) (hP : P.1 = 18) (hD : ∀ q ∈ D, sxIn (τ ++ [x.toInt]) q) (hE : ∀ q ∈ E, sxDf (τ ++ [x.toInt]) q) (hF : ∀ q ∈ F, sxFt T' (τ ++ [x.toInt]) q) : sxPtR T' 579 (sxVw (ghL T' V) scr 579 H) (τ ++ [x.toInt]) (tuJ8 P D E F) cl [] := by
  obtain ⟨p1, p2, p3, p4, p5, p6, p7, p8⟩ := hp
  have hl : τ.length = 18 := p1.1.trans hP
  have up : sxUp τ (τ ++ [x.toInt]) := sxUp.app _ _
  have e5 : (τ ++ [x.toInt])[18]? = some x.toInt := by rw [List.getElem?_append_right (by omega), hl]; rfl
  refine ⟨⟨by rw [List.length_append, p1.1]; rfl, up _ _ p1.2⟩, fun q hq => ?_, fun q hq => ?_, p4.up up, trivial, fun q hq => ?_, (fun q hq => by cases hq), hF⟩
  · rcases List.mem_append.mp hq with hq | hq
    · obtain ⟨z, z1, z2⟩ := p2 q hq
      exact ⟨z, up _ _ z1, z2⟩
    · exact hD q hq
  · rcases List.mem_append.mp hq with hq | hq
    · obtain ⟨a, b, z1, z2, z3⟩ := p3 q hq
      exact ⟨a, b, up _ _ z1, up _ _ z2, z3⟩
    · exact hE q hq
  · rcases List.mem_append.mp hq with hq | hq
    · obtain ⟨z, v, a1, a2, a3, a4⟩ := hO q hq
      exact ⟨z, v, a1.up up, a2, a3, a4.up up⟩
    · cases List.mem_singleton.mp hq
      refine ⟨i + 1, .int x, ⟨i, up _ _ hi, rfl⟩, by omega, ?_, x, rfl, _, (by rw [hP]; exact e5), by simp⟩
      show sxVw (ghL T' V) scr 579 H 3000000 (i + 1).toNat = some (.int x)
      unfold sxVw
      rw [if_neg (by decide), if_neg (by decide), if_pos (by decide), hxs]
      dsimp only
      rw [show (i + 1).toNat = i.toNat + 1 by omega, hx]
      rfl
/-- the number behind the case's own -/
theorem tuNum (hp : sxPtR T 579 (sxVw (ghL T v00) scr 579 H) τ (tuPc J) cl []) (hsl : sxSl τ (some (1, 0)) scr) : ∃ (xs : List Int32) (x : Int32) (i : Int), scr = some xs ∧ τ[3]? = some i ∧ 0 ≤ i ∧ xs[i.toNat + 1]? = some x := by
  obtain ⟨xs, s1, s2, y, s3, s4⟩ := hsl
  obtain ⟨p1, p2, p3, -⟩ := hp
  obtain ⟨i, i1, i2, i3⟩ := p2 (3, .ofNat 0, .ofNat 3066) (by simp [tuPc])
  obtain ⟨a, b, g1, g2, g3⟩ := p3 (3, 1, .negSucc 5) (by simp [tuPc])
  dsimp only at i1 i2 g1 g2 g3 s3 s4
  rw [i1] at g1
  cases Option.some.inj g1
  rw [s3] at g2
  cases Option.some.inj g2
  have e6 : Int.negSucc 5 = -6 := rfl
  rw [e6] at g3
  simp only [Int.ofNat_eq_natCast] at i2
  have hlt : i.toNat + 1 < xs.length := by omega
  exact ⟨xs, xs[i.toNat + 1], i, s1, i1, by omega, List.getElem?_eq_getElem hlt⟩
/-- with the numbers that the reading comes to -/
def tuJ7 (P : sxPt) : sxPt := (25, P.2.1 ++ [(19, .negSucc 2147483647, .ofNat 2147483647), (20, .negSucc 2147483647, .ofNat 2147483647), (21, .negSucc 2147483647, .ofNat 2147483647), (22, .negSucc 2147483647, .ofNat 2147483647), (23, .negSucc 2147483647, .ofNat 2147483647), (24, .negSucc 2147483647, .ofNat 2147483647)], P.2.2.1, P.2.2.2.1, P.2.2.2.2.1, P.2.2.2.2.2.1 ++ [(579, (0, .ofNat 9), .inr (false, (19, .ofNat 0))), (579, (0, .ofNat 11), .inr (false, (20, .ofNat 0))), (579, (0, .ofNat 12), .inr (false, (21, .ofNat 0))), (579, (0, .ofNat 13), .inr (false, (22, .ofNat 0))), (579, (0, .ofNat 14), .inr (false, (23, .ofNat 0))), (579, (0, .ofNat 15), .inr (false, (24, .ofNat 0)))], P.2.2.2.2.2.2.1, P.2.2.2.2.2.2.2)
theorem tuExtG {P : sxPt} {σ : List Int} (hp : sxPtR T 579 (sxVw (ghL T V) scr 579 H) σ P cl cs) (hP : P.1 = 19) (hG : P.2.2.2.2.2.2.1 = []) (hV : ∀ k, -2147483648 ≤ V.2.2 k ∧ V.2.2 k < 2147483648) : sxPtR T 579 (sxVw (ghL T V) scr 579 H) (σ ++ [V.2.2 0, V.2.2 2, V.2.2 3, V.2.2 4, V.2.2 5, V.2.2 6]) (tuJ7 P) cl cs := by
  obtain ⟨p1, p2, p3, p4, p5, p6, p7, p8⟩ := hp
  have hl : σ.length = 19 := p1.1.trans hP
  have up : sxUp σ (σ ++ [V.2.2 0, V.2.2 2, V.2.2 3, V.2.2 4, V.2.2 5, V.2.2 6]) := sxUp.app _ _
  have v9 : ∀ k, k < 10 → sxVw (ghL T V) scr 579 H 579 (9 + k) = some (.int (Int32.ofInt (V.2.2 k))) := by
    intro k hk
    rw [gvG, show 9 + k = (k + 2) + 7 by omega]
    refine Eq.trans (ghX_lt (show k + 2 < 13 by omega)) ?_
    unfold ghT
    rw [if_neg (by omega), if_neg (by omega), if_neg (by omega), if_pos (by omega), show k + 2 - 2 = k by omega]
  have r9 : ∀ k, (Int32.ofInt (V.2.2 k)).toInt = V.2.2 k := fun k => rdI (hV k).1 (hV k).2
  have e0 : (σ ++ [V.2.2 0, V.2.2 2, V.2.2 3, V.2.2 4, V.2.2 5, V.2.2 6])[19]? = some (V.2.2 0) := by rw [List.getElem?_append_right (by omega), hl]; rfl
  have e2 : (σ ++ [V.2.2 0, V.2.2 2, V.2.2 3, V.2.2 4, V.2.2 5, V.2.2 6])[20]? = some (V.2.2 2) := by rw [List.getElem?_append_right (by omega), hl]; rfl
  have e3 : (σ ++ [V.2.2 0, V.2.2 2, V.2.2 3, V.2.2 4, V.2.2 5, V.2.2 6])[21]? = some (V.2.2 3) := by rw [List.getElem?_append_right (by omega), hl]; rfl
  have e4 : (σ ++ [V.2.2 0, V.2.2 2, V.2.2 3, V.2.2 4, V.2.2 5, V.2.2 6])[22]? = some (V.2.2 4) := by rw [List.getElem?_append_right (by omega), hl]; rfl
  have e5 : (σ ++ [V.2.2 0, V.2.2 2, V.2.2 3, V.2.2 4, V.2.2 5, V.2.2 6])[23]? = some (V.2.2 5) := by rw [List.getElem?_append_right (by omega), hl]; rfl
  have e6 : (σ ++ [V.2.2 0, V.2.2 2, V.2.2 3, V.2.2 4, V.2.2 5, V.2.2 6])[24]? = some (V.2.2 6) := by rw [List.getElem?_append_right (by omega), hl]; rfl
  refine ⟨⟨by rw [List.length_append, hl]; rfl, up _ _ p1.2⟩, fun q hq => ?_, fun q hq => ?_, p4.up up, p5.up up, fun q hq => ?_, (fun q hq => by rw [show (tuJ7 P).2.2.2.2.2.2.1 = [] from hG] at hq; cases hq), fun q hq => ?_⟩
  · rcases List.mem_append.mp hq with hq | hq
    · obtain ⟨z, z1, z2⟩ := p2 q hq
      exact ⟨z, up _ _ z1, z2⟩
    · simp only [List.mem_cons, List.not_mem_nil, or_false] at hq
      rcases hq with rfl | rfl | rfl | rfl | rfl | rfl
      · exact ⟨_, e0, by have := hV 0; simp only [Int.negSucc_eq]; omega, by have := hV 0; simp only [Int.ofNat_eq_natCast]; omega⟩
      · exact ⟨_, e2, by have := hV 2; simp only [Int.negSucc_eq]; omega, by have := hV 2; simp only [Int.ofNat_eq_natCast]; omega⟩
      · exact ⟨_, e3, by have := hV 3; simp only [Int.negSucc_eq]; omega, by have := hV 3; simp only [Int.ofNat_eq_natCast]; omega⟩
      · exact ⟨_, e4, by have := hV 4; simp only [Int.negSucc_eq]; omega, by have := hV 4; simp only [Int.ofNat_eq_natCast]; omega⟩
      · exact ⟨_, e5, by have := hV 5; simp only [Int.negSucc_eq]; omega, by have := hV 5; simp only [Int.ofNat_eq_natCast]; omega⟩
      · exact ⟨_, e6, by have := hV 6; simp only [Int.negSucc_eq]; omega, by have := hV 6; simp only [Int.ofNat_eq_natCast]; omega⟩
  · obtain ⟨a, b, z1, z2, z3⟩ := p3 q hq
    exact ⟨a, b, up _ _ z1, up _ _ z2, z3⟩
  · rcases List.mem_append.mp hq with hq | hq
    · obtain ⟨z, v, a1, a2, a3, a4⟩ := p6 q hq
      exact ⟨z, v, a1.up up, a2, a3, a4.up up⟩
    · simp only [List.mem_cons, List.not_mem_nil, or_false] at hq
      rcases hq with rfl | rfl | rfl | rfl | rfl | rfl
      · exact ⟨9, _, ⟨0, up _ _ p1.2, by simp⟩, by decide, v9 0 (by decide), _, rfl, _, e0, by rw [r9]; simp⟩
      · exact ⟨11, _, ⟨0, up _ _ p1.2, by simp⟩, by decide, v9 2 (by decide), _, rfl, _, e2, by rw [r9]; simp⟩
      · exact ⟨12, _, ⟨0, up _ _ p1.2, by simp⟩, by decide, v9 3 (by decide), _, rfl, _, e3, by rw [r9]; simp⟩
      · exact ⟨13, _, ⟨0, up _ _ p1.2, by simp⟩, by decide, v9 4 (by decide), _, rfl, _, e4, by rw [r9]; simp⟩
      · exact ⟨14, _, ⟨0, up _ _ p1.2, by simp⟩, by decide, v9 5 (by decide), _, rfl, _, e5, by rw [r9]; simp⟩
      · exact ⟨15, _, ⟨0, up _ _ p1.2, by simp⟩, by decide, v9 6 (by decide), _, rfl, _, e6, by rw [r9]; simp⟩
  · obtain ⟨a, b, c, h1, h2, h3, h4⟩ := p8 q hq
    exact ⟨a, b, c, h1.up up, h2.up up, h3.up up, h4⟩
end TUJAR

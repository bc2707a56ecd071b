/-! jar's turn: what stands ahead -/
section TUJAR
def tuJ6 (D : sxD) (E : sxE) (F : sxF) : sxPt := (7, tuPc.2.1 ++ D, tuPc.2.2.1 ++ E, tuPc.2.2.2.1, [], tuPc.2.2.2.2.2.1 ++ [(3000000, (3, .ofNat 1), .inr (false, (6, .ofNat 0)))], [], F)
variable {T : Nat} {V : Int × Int} {scr : Option (List Int32)} {H : mjH} {τ : List Int} {cl : mjL} {cs : List Value}
theorem tuExt {T' : Nat} {D : sxD} {E : sxE} {F : sxF} {xs : List Int32} {x : Int32} {i : Int} (hp : sxPtR T 579 (sxVw (ghL T (0, 0)) scr 579 H) τ tuPc cl []) (hxs : scr = some xs) (hi : τ[3]? = some i) (hi0 : 0 ≤ i) (hx : xs[i.toNat + 1]? = some x)
    (hO : sxOR (sxVw (ghL T' V) scr 579 H) τ tuPc.2.2.2.2.2.1) (hD : ∀ q ∈ D, sxIn (τ ++ [x.toInt]) q) (hE : ∀ q ∈ E, sxDf (τ ++ [x.toInt]) q) (hF : ∀ q ∈ F, sxFt T' (τ ++ [x.toInt]) q) : sxPtR T' 579 (sxVw (ghL T' V) scr 579 H) (τ ++ [x.toInt]) (tuJ6 D E F) cl [] := by
  obtain ⟨p1, p2, p3, p4, p5, p6, p7, p8⟩ := hp
  have hl : τ.length = 6 := p1.1
  have up : sxUp τ (τ ++ [x.toInt]) := sxUp.app _ _
  have e5 : (τ ++ [x.toInt])[6]? = some x.toInt := by rw [List.getElem?_append_right (by omega), hl]; rfl
  refine ⟨⟨by rw [List.length_append, hl]; rfl, up _ _ p1.2⟩, fun q hq => ?_, fun q hq => ?_, p4.up up, trivial, fun q hq => ?_, (fun q hq => by cases hq), hF⟩
  · rcases List.mem_append.mp hq with hq | hq
    · obtain ⟨z, z1, z2⟩ := p2 q hq
      exact ⟨z, up _ _ z1, z2⟩
    · exact hD q hq
  · rcases List.mem_append.mp hq with hq | hq
    · obtain ⟨a, b, z1, z2, z3⟩ := p3 q hq
      exact ⟨a, b, up _ _ z1, up _ _ z2, z3⟩
    · exact hE q hq
  · rcases List.mem_append.mp hq with hq | hq
    · obtain ⟨z, v, a1, a2, a3, a4⟩ := hO q hq
      exact ⟨z, v, a1.up up, a2, a3, a4.up up⟩
    · cases List.mem_singleton.mp hq
      refine ⟨i + 1, .int x, ⟨i, up _ _ hi, rfl⟩, by omega, ?_, x, rfl, _, e5, by simp⟩
      show sxVw (ghL T' V) scr 579 H 3000000 (i + 1).toNat = some (.int x)
      unfold sxVw
      rw [if_neg (by decide), if_neg (by decide), if_pos (by decide), hxs]
      dsimp only
      rw [show (i + 1).toNat = i.toNat + 1 by omega, hx]
      rfl
/-- the number behind the case's own -/
theorem tuNum (hp : sxPtR T 579 (sxVw (ghL T (0, 0)) scr 579 H) τ tuPc cl []) (hsl : sxSl τ (some (1, 0)) scr) : ∃ (xs : List Int32) (x : Int32) (i : Int), scr = some xs ∧ τ[3]? = some i ∧ 0 ≤ i ∧ xs[i.toNat + 1]? = some x := by
  obtain ⟨xs, s1, s2, y, s3, s4⟩ := hsl
  obtain ⟨p1, p2, p3, -⟩ := hp
  obtain ⟨i, i1, i2, i3⟩ := p2 (3, .ofNat 0, .ofNat 3066) (by simp [tuPc])
  obtain ⟨a, b, g1, g2, g3⟩ := p3 (3, 1, .negSucc 5) (by simp [tuPc])
  dsimp only at i1 i2 g1 g2 g3 s3 s4
  rw [i1] at g1
  cases Option.some.inj g1
  rw [s3] at g2
  cases Option.some.inj g2
  have e6 : Int.negSucc 5 = -6 := rfl
  rw [e6] at g3
  simp only [Int.ofNat_eq_natCast] at i2
  have hlt : i.toNat + 1 < xs.length := by omega
  exact ⟨xs, xs[i.toNat + 1], i, s1, i1, by omega, List.getElem?_eq_getElem hlt⟩
end TUJAR

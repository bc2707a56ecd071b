/-! SX: tongue, by hand: what is copied is well formed, the proof -/
section SXTNG
variable {T : Nat} {V : rdVt} {scr : Option (List Int32)} {Z : mjO → Prop} {d : Nat} {H H0 H1 : mjH} {cl : mjL} {τ : List Int}
theorem sxMi_one {q i : Nat} (hq : q < 1000000) (h : sxMi q i = true) : q = i := by
  unfold sxMi at h
  rw [show Nat.blt q 1000000 = true from Nat.ble_eq.mpr hq] at h
  exact beqOk h
def tgL (cl : mjL) (k : Int) : Prop := (mjGet cl 0 = some (.ref 78) ∧ ∃ x : Int32, mjGet cl 2 = some (.int x) ∧ x.toInt = k) ∧ ∀ q ∈ cl, mjSc 579 q.2 = true
theorem tgV {σ : List Int} {O : sxO} {i j s : Nat} {c z : Int} (hO : sxOR (sxVw (ghL T V) scr 579 H) σ O) (h0 : σ[0]? = some 0) (hm : (i, ((0 : Nat), Int.ofNat j), isS1 s c) ∈ O) (hs : σ[s]? = some z) : ∃ x : Int32, sxVw (ghL T V) scr 579 H i j = some (.int x) ∧ x.toInt = z + c := by
  obtain ⟨y, v, ⟨u, u1, u2⟩, y2, y3, y4⟩ := hO _ hm
  dsimp only at u1 u2 y3 y4
  cases Option.some.inj (h0.symm.trans u1)
  rw [show y.toNat = j by simp only [Int.ofNat_eq_natCast] at u2; omega] at y3
  obtain ⟨x, rfl, hx⟩ := isS1_v y4 hs
  exact ⟨x, y3, hx⟩
theorem tgVG {σ : List Int} {O : sxO} {i j s : Nat} {c z : Int} (hi : i < 579) (hO : sxOR (sxVw (ghL T V) scr 579 H) σ O) (h0 : σ[0]? = some 0) (hm : (i, ((0 : Nat), Int.ofNat j), isS1 s c) ∈ O) (hs : σ[s]? = some z) : ghV H i j = z + c := by
  obtain ⟨x, h1, h2⟩ := tgV hO h0 hm hs
  rw [gvE hi] at h1
  unfold ghV
  rw [h1]
  exact h2
theorem tgO {σ : List Int} {i j s : Nat} {c z : Int} {x : Int32} (hi : i < 579) (h0 : σ[0]? = some 0) (hx : sxEl H i j = some (.int x)) (hs : σ[s]? = some z) (e : x.toInt = z + c) : ∃ (y : Int) (v : Value), sxNR σ ((0 : Nat), Int.ofNat j) y ∧ 0 ≤ y ∧ sxVw (ghL T V) scr 579 H i y.toNat = some v ∧ sxVR σ (isS1 s c) v :=
  ⟨j, .int x, ⟨0, h0, by simp⟩, by omega, by rw [show ((j : Int)).toNat = j by omega, gvE hi]; exact hx, isS1_of hs e⟩
theorem tgRow_mem {R : Nat} : ∀ {k m : Nat}, k ≤ R → R < k + m → (96 + R, ((0 : Nat), Int.ofNat 1), isS1 (2 * R + 2) (.ofNat 0)) ∈ tgRow k m ∧ (107 + R, ((0 : Nat), Int.ofNat 1), isS1 (2 * R + 2) (.ofNat 0)) ∈ tgRow k m ∧ (96 + R, ((0 : Nat), Int.ofNat 2), isS1 (2 * R + 3) (.ofNat 0)) ∈ tgRow k m ∧ (107 + R, ((0 : Nat), Int.ofNat 2), isS1 (2 * R + 3) (.ofNat 0)) ∈ tgRow k m
  | k, 0, h1, h2 => by omega
  | k, m + 1, h1, h2 => by
    unfold tgRow
    by_cases hk : R = k
    · subst hk
      simp
    · obtain ⟨a, b, c, e⟩ := tgRow_mem (R := R) (k := k + 1) (m := m) (by omega) (by omega)
      exact ⟨.tail _ (.tail _ (.tail _ (.tail _ a))), .tail _ (.tail _ (.tail _ (.tail _ b))), .tail _ (.tail _ (.tail _ (.tail _ c))), .tail _ (.tail _ (.tail _ (.tail _ e)))⟩
/-- an int stands there -/
theorem tgInt (h : sxHR sxKw H) {i j : Nat} (hi : i < 579) (hck : (match aGet2 sxKw.1 i with | some c => (Nat.blt j c.2.1 && (match aNth c.2.2.2 j with | some (.inr (false, _, _)) => true | _ => false)) | none => false) = true) : ∃ x : Int32, sxEl H i j = some (.int x) := by
  split at hck
  · rename_i c hc
    simp only [Bool.and_eq_true] at hck
    obtain ⟨e, he, hce⟩ := h.2 i c hc hi
    have hl : c.2.1 = e.2.length := hce.1.2
    have h2 : j < c.2.1 := bltOk hck.1
    have hv : e.2[j]? = some e.2[j] := List.getElem?_eq_getElem (by omega)
    have h4 := (hce.2 j _ hv).2
    split at hck
    · rename_i lo hi hq
      obtain ⟨x, hx, -⟩ := h4 _ hq
      refine ⟨x, ?_⟩
      unfold sxEl
      rw [he]
      dsimp only
      rw [hv, hx]
    · exact absurd hck.2 (by decide)
  · cases hck
/-- the copied codes, from k on -/
theorem tgLoop {R c : Nat} {v0 : Nat → Nat → Option Value} (hd : 1 ≤ d) (hc : c ≤ 220) (hR : R ≤ 10)
    (hZ : ∀ (x : Int32) (H' : mjH), x.toInt = R → sxHR sxKw H' → sxKp tgM v0 (sxVw (ghL T V) scr 579 H') → (∀ j, j < c → ghCc H' j = ghRc H1 j) → ghV H' 78 25 = R → (∀ k q, 96 ≤ k → k < 106 → ghV H' k q = ghV H0 k q) → Z (.inl (some (.int x)), H', 0, 0)) :
    ∀ (m k : Nat) (cl : mjL) (H : mjH), c - k = m → k ≤ c → sxHR sxKw H → sxKp tgM v0 (sxVw (ghL T V) scr 579 H) → tgL cl k → (∀ j, j < k → ghCc H j = ghRc H1 j) → (∀ j, ghRc H j = ghRc H1 j) → ghV H 78 25 = R → ghV H 78 27 = c → (∀ k q, 96 ≤ k → k < 106 → ghV H k q = ghV H0 k q) → mjRn Z scr [] d 236 170 cl [] H 0 0
  | 0, k, cl, H, hm, hkc, hH, hkp, hL, hcc, hrc, h25, h27, hrow => by
    obtain ⟨⟨l0, xk, l2, e2⟩, lsc⟩ := hL
    obtain ⟨x25, e25⟩ := tgInt hH (i := 78) (j := 25) (by omega) (by decide +kernel)
    obtain ⟨x27, e27⟩ := tgInt hH (i := 78) (j := 27) (by omega) (by decide +kernel)
    have f25 : x25.toInt = R := by rw [← h25]; unfold ghV; rw [e25]
    have f27 : x27.toInt = c := by rw [← h27]; unfold ghV; rw [e27]
    refine sxSegX (J := tgJ [] 4 [] [tgD1]) (p := tgD0) (C0 := 0) (S0 := 0) (v0 := sxVw (ghL T V) scr 579 H) (τ0 := [0, c, k, R]) (τ := [0, c, k, R]) (me := none) 100 tgD_ok ghGd (by decide) (by decide) (fun c hc => (by cases hc)) hd sxUp.rf rfl (fun b hb => (by cases hb)) trivial ?_ hH sxKp.rf (Nat.le_refl _) (Nat.le_refl _) (fun u hu => (by cases hu)) ?_ (fun q hq => (by cases hq))
    · refine ⟨⟨rfl, rfl⟩, fun q hq => ?_, fun q hq => ?_, sxLR_of (fun q hq => ?_) lsc, trivial, fun q hq => ?_, fun q hq => (by cases hq), fun q hq => (by cases hq)⟩
      · simp only [tgD0, List.mem_cons, List.not_mem_nil, or_false] at hq
        rcases hq with rfl | rfl | rfl
        · exact ⟨c, rfl, by simp, by dsimp only; simp only [Int.ofNat_eq_natCast]; omega⟩
        · exact ⟨k, rfl, by simp, by dsimp only; simp only [Int.ofNat_eq_natCast]; omega⟩
        · exact ⟨R, rfl, by simp, by dsimp only; simp only [Int.ofNat_eq_natCast]; omega⟩
      · simp only [tgD0, List.mem_cons, List.not_mem_nil, or_false] at hq
        subst hq
        exact ⟨c, k, rfl, rfl, by dsimp only; simp only [Int.ofNat_eq_natCast]; omega⟩
      · simp only [tgD0, List.mem_cons, List.not_mem_nil, or_false] at hq
        rcases hq with rfl | rfl
        · exact ⟨_, l0, rfl⟩
        · exact ⟨_, l2, isS1_of (z := k) rfl (by rw [e2]; simp)⟩
      · simp only [tgD0, List.mem_cons, List.not_mem_nil, or_false] at hq
        rcases hq with rfl | rfl
        · exact tgO (by omega) rfl e27 (z := c) rfl (by rw [f27]; simp)
        · exact tgO (by omega) rfl e25 (z := R) rfl (by rw [f25]; simp)
    · intro p hp cv τ' H' C S g1 g2 g3 g4 g5 g6
      cases List.mem_singleton.mp hp
      have hC : C = 0 := Nat.le_zero.mp g5
      have hS : S = 0 := Nat.le_zero.mp g6
      subst hC hS
      obtain ⟨p1, p2, p3, p4, p5, p6, p7⟩ := g2
      have same : ∀ i j, sxVw (ghL T V) scr 579 H' i j = sxVw (ghL T V) scr 579 H i j := fun i j => g4 i j rfl
      have sameV : ∀ {i j}, i < 579 → ghV H' i j = ghV H i j := by
        intro i j hi
        have := same i j
        rw [gvE hi, gvE hi] at this
        unfold ghV
        rw [this]
      cases cv with
      | none => exact p5.elim
      | some w =>
        obtain ⟨x, rfl, hx⟩ := isS1_v p5.1 (g1 3 (R : Int) rfl)
        refine hZ x H' (by rw [hx]; simp) g3 (fun i j hij => (same i j).trans (hkp i j hij)) (fun j hj => ?_) (by rw [sameV (by omega), h25]) (fun k q h1 h2 => by rw [sameV (by omega), hrow k q h1 h2])
        rw [← hcc j (by omega)]
        exact sameV (by omega)
  | m + 1, k, cl, H, hm, hkc, hH, hkp, hL, hcc, hrc, h25, h27, hrow => by
    have hk : k < 220 := by omega
    obtain ⟨⟨l0, xk, l2, e2⟩, lsc⟩ := hL
    obtain ⟨x27, e27⟩ := tgInt hH (i := 78) (j := 27) (by omega) (by decide +kernel)
    have f27 : x27.toInt = c := by rw [← h27]; unfold ghV; rw [e27]
    have hck := List.all_eq_true.mp tgC_ok k (List.mem_range.mpr hk)
    rw [aFc_eq] at hck
    refine sxSegX (J := tgJ (tgMC k) 2 [(170, tgC1 k, isZ, 0, 0)] []) (p := tgC0 k) (C0 := 0) (S0 := 0) (v0 := sxVw (ghL T V) scr 579 H) (τ0 := [0, c]) (τ := [0, c]) (me := none) 200 hck ghGd isLt (show 0 < 2 by decide) (fun c hc => (by cases hc)) hd sxUp.rf rfl (fun b hb => (by cases hb)) trivial ?_ hH sxKp.rf (Nat.le_refl _) (Nat.le_refl _) ?_ (fun p hp => (by cases hp)) (fun q hq => (by cases hq))
    · refine ⟨⟨rfl, rfl⟩, fun q hq => ?_, fun q hq => (by cases hq), sxLR_of (fun q hq => ?_) lsc, trivial, fun q hq => ?_, fun q hq => (by cases hq), fun q hq => (by cases hq)⟩
      · simp only [tgC0, List.mem_cons, List.not_mem_nil, or_false] at hq
        subst hq
        exact ⟨c, rfl, by dsimp only; simp only [Int.ofNat_eq_natCast]; omega, by dsimp only; simp only [Int.ofNat_eq_natCast]; omega⟩
      · simp only [tgC0, List.mem_cons, List.not_mem_nil, or_false] at hq
        rcases hq with rfl | rfl
        · exact ⟨_, l0, rfl⟩
        · exact ⟨_, l2, isS1_of (z := 0) rfl (by rw [e2]; simp)⟩
      · simp only [tgC0, List.mem_cons, List.not_mem_nil, or_false] at hq
        subst hq
        exact tgO (by omega) rfl e27 (z := c) rfl (by rw [f27]; simp)
    · intro u hu τ' cl' cs' H' C S g1 g2 g3 g4 g5 g6 _
      cases List.mem_singleton.mp hu
      have hC : C = 0 := Nat.le_zero.mp g5
      have hS : S = 0 := Nat.le_zero.mp g6
      subst hC hS
      obtain ⟨p1, p2, p3, p4, p5, p6, p7⟩ := g2
      cases sxSR_n p5
      have hM : ∀ i j, i ≠ 118 + k → i < 579 → sxMd (tgMC k) i j = false := by
        intro i j h1 h2
        unfold sxMd tgMC
        simp only [List.any_cons, List.any_nil, Bool.or_false]
        have b1 : sxMi (118 + k) i = false := by
          cases hb : sxMi (118 + k) i with
          | false => rfl
          | true => exact absurd (sxMi_one (by omega) hb).symm h1
        have b2 : sxMi 579 i = false := by
          cases hb : sxMi 579 i with
          | false => rfl
          | true => have := sxMi_one (by omega) hb; omega
        rw [b1, b2]
        rfl
      have sameV : ∀ {i j}, i ≠ 118 + k → i < 579 → ghV H' i j = ghV H i j := by
        intro i j h1 h2
        have : sxVw (ghL T V) scr 579 H' i j = sxVw (ghL T V) scr 579 H i j := g4 i j (hM i j h1 h2)
        rw [gvE h2, gvE h2] at this
        unfold ghV
        rw [this]
      have sub : sxKp tgM (sxVw (ghL T V) scr 579 H) (sxVw (ghL T V) scr 579 H') := by
        have := tgS_ok
        rw [Bool.and_eq_true] at this
        exact g4.sub (List.all_eq_true.mp this.2 k (List.mem_range.mpr hk))
      have s2 : ∃ z, τ'[2]? = some z := by
        have : 2 < τ'.length := by rw [p1.1]; exact (show 2 < 3 by decide)
        exact ⟨_, List.getElem?_eq_getElem this⟩
      obtain ⟨z2, s2⟩ := s2
      have ea := tgVG (i := 118 + k) (j := 0) (s := 2) (c := .ofNat 0) (by omega) p6 p1.2 (by simp [tgC1]) s2
      have eb := tgVG (i := 339 + k) (j := 0) (s := 2) (c := .ofNat 0) (by omega) p6 p1.2 (by simp [tgC1]) s2
      obtain ⟨v0', a0, b0⟩ := p4.1 0 _ rfl
      cases (show v0' = .ref 78 from b0)
      obtain ⟨v2, a2, b2⟩ := p4.1 2 _ rfl
      obtain ⟨x2, rfl, c2⟩ := isS1_v b2 p1.2
      have hrc' : ∀ j, ghRc H' j = ghRc H1 j := by
        intro j
        by_cases hj : 339 + j < 579
        · rw [← hrc j]
          exact sameV (by omega) hj
        · have : ∀ Q : mjH, sxHR sxKw Q → ghRc Q j = 0 := by
            intro Q hQ
            unfold ghRc ghV sxEl
            rw [List.getElem?_eq_none (by rw [hQ.1]; exact Nat.not_lt.mp hj)]
          rw [this H' g3, ← hrc j, this H hH]
      refine tgLoop hd hc hR hZ m (k + 1) cl' H' (by omega) (by omega) g3 (hkp.tr sub) ⟨⟨a0, x2, a2, by rw [c2]; simp⟩, p4.2⟩ (fun j hj => ?_) hrc' (by rw [sameV (by omega) (by omega), h25]) (by rw [sameV (by omega) (by omega), h27]) (fun q1 q2 h1 h2 => by rw [sameV (by omega) (by omega), hrow q1 q2 h1 h2])
      by_cases hjk : j = k
      · subst hjk
        rw [← hrc' j]
        show ghV H' (118 + j) 0 = ghV H' (339 + j) 0
        rw [ea, eb]
      · rw [← hcc j (by omega)]
        exact sameV (by omega) (by omega)
theorem isTng : sxCtV sxKw (ghL T V) ctTng := by
  intro scr Z d τ cl H hd hH hpre hpost _
  have hcuts := tgA_cu
  have hck := tgA_go
  have hsub := tgS_ok
  rw [Bool.and_eq_true] at hsub
  have hs1 : sxMsb tgMB tgM = true := by
    have := hsub.1
    split at this
    · rename_i e; exact e
    · cases this
  have hs2 : sxMsb tgM ctTng.2.2.2.1 = true := by
    have := hsub.1
    split at this
    · split at this
      · rename_i e; exact e
      · cases this
    · cases this
  have hpre0 := hpre
  refine sxRunX (J := tgJA) (p := ctTng.2.2.1) (C0 := 0) (S0 := 0) (v0 := sxVw (ghL T V) scr 579 H) (τ0 := τ) (τ := τ) (cuts := cuTng) (exits := cxTng) 2000 rfl hcuts hck ghGd (by decide) (by decide) (cvTngs2 ghGd) hd sxUp.rf hpre.1.1 (fun _ _ => trivial) hpre hH sxKp.rf (Nat.le_refl _) (Nat.le_refl _) ?_ (fun p hp cv τ' H' C S h1 h2 h3 h4 h5 h6 => hpost cv H' C S τ' p hp h1 h3 h2 h4 h5 h6) (fun q hq => (by cases hq))
  intro u hu τ1 cl1 cs1 H1 C S u1 hp1 hH1 hk1 hC hS
  cases List.mem_singleton.mp hu
  have hC : C = 0 := Nat.le_zero.mp hC
  have hS : S = 0 := Nat.le_zero.mp hS
  subst hC hS
  obtain ⟨p1, p2, p3, p4, p5, p6, p7⟩ := hp1
  cases sxSR_n p5
  have g0 : ∃ z5 z6, τ1[5]? = some z5 ∧ τ1[6]? = some z6 ∧ (0 ≤ z5 ∧ z5 ≤ 10) ∧ 0 ≤ z6 ∧ z6 ≤ 220 := by
    obtain ⟨z5, a1, a2, a3⟩ := p2 (5, .ofNat 0, .ofNat 10) (by decide)
    obtain ⟨z6, b1, b2, b3⟩ := p2 (6, .ofNat 0, .ofNat 219) (by decide)
    exact ⟨z5, z6, a1, b1, ⟨a2, a3⟩, b2, by dsimp only at b3; simp only [Int.ofNat_eq_natCast] at b3; omega⟩
  obtain ⟨z5, z6, s5, s6, ⟨z50, z51⟩, z60, z61⟩ := g0
  obtain ⟨x26, e26, f26⟩ := tgV (i := 78) (j := 26) (s := 5) (c := .ofNat 0) p6 p1.2 (by simp [isS1]) s5
  obtain ⟨x28, e28, f28⟩ := tgV (i := 78) (j := 28) (s := 6) (c := .ofNat 0) p6 p1.2 (by simp [isS1]) s6
  obtain ⟨xg, eg, -⟩ := tgV (i := 579) (j := 1) (s := 0) (c := .ofNat 1) p6 p1.2 (by simp [isS1]) p1.2
  obtain ⟨xt, et, ft⟩ := tgV (i := 78) (j := 1) (s := 0) (c := .ofNat 0) p6 p1.2 (by simp [isS1]) p1.2
  rw [gvE (by omega)] at e26 e28 et
  rw [gvG] at eg
  obtain ⟨hg1, -⟩ := ghB_iff eg
  have h26 : ghV H1 78 26 = z5 := by unfold ghV; rw [e26]; simpa using f26
  have h28 : ghV H1 78 28 = z6 := by unfold ghV; rw [e28]; simpa using f28
  obtain ⟨v0', l0, m0⟩ := p4.1 0 _ rfl
  cases (show v0' = .ref 78 from m0)
  have hR : z5.toNat < 11 := by omega
  have hb := List.all_eq_true.mp tgB_ok z5.toNat (List.mem_range.mpr hR)
  rw [aFc_eq] at hb
  have hargs : ∃ za zt, τ[1]? = some za ∧ τ[2]? = some zt ∧ (0 ≤ za ∧ za ≤ 200) ∧ (0 ≤ zt ∧ zt ≤ 600) ∧ za ≤ zt := by
    obtain ⟨za0, a1, a2, a3⟩ := p2 (1, .ofNat 0, .ofNat 200) (by decide)
    obtain ⟨zt0, b1, b2, b3⟩ := p2 (2, .ofNat 0, .ofNat 600) (by decide)
    obtain ⟨q1, q2, c1, c2, c3⟩ := p3 (1, 2, .ofNat 0) (by decide)
    have k1 : 1 < τ.length := by rw [hpre0.1.1]; decide
    have k2 : 2 < τ.length := by rw [hpre0.1.1]; decide
    have w1 := u1 1 _ (List.getElem?_eq_getElem k1)
    have w2 := u1 2 _ (List.getElem?_eq_getElem k2)
    dsimp only at a1 a2 a3 b1 b2 b3 c1 c2 c3
    simp only [Int.ofNat_eq_natCast] at a2 a3 b2 b3 c3
    cases Option.some.inj (a1.symm.trans w1)
    cases Option.some.inj (b1.symm.trans w2)
    cases Option.some.inj (c1.symm.trans w1)
    cases Option.some.inj (c2.symm.trans w2)
    exact ⟨_, _, List.getElem?_eq_getElem k1, List.getElem?_eq_getElem k2, ⟨by omega, by omega⟩, ⟨by omega, by omega⟩, by omega⟩
  have hd1 : 1 ≤ d := Nat.le_trans (by decide) hd
  refine sxSegX (J := tgJ tgMB 2 [(170, tgB1 z5.toNat, isZ, 0, 0)] []) (p := tgB0 z5.toNat) (C0 := 0) (S0 := 0) (v0 := sxVw (ghL T V) scr 579 H1) (τ0 := [0, z6]) (τ := [0, z6]) (me := none) 1500 hb ghGd isLt (show 0 < 2 by decide) (fun c hc => (by cases hc)) hd1 sxUp.rf rfl (fun b hb => (by cases hb)) trivial ?_ hH1 sxKp.rf (Nat.le_refl _) (Nat.le_refl _) ?_ (fun p hp => (by cases hp)) (fun q hq => (by cases hq))
  · refine ⟨⟨rfl, rfl⟩, fun q hq => ?_, fun q hq => (by cases hq), sxLR_of (fun q hq => ?_) p4.2, trivial, fun q hq => ?_, fun q hq => (by cases hq), fun q hq => (by cases hq)⟩
    · simp only [tgB0, List.mem_cons, List.not_mem_nil, or_false] at hq
      subst hq
      exact ⟨z6, rfl, z60, z61⟩
    · simp only [tgB0, List.mem_cons, List.not_mem_nil, or_false] at hq
      subst hq
      exact ⟨_, l0, rfl⟩
    · simp only [tgB0, List.mem_cons, List.not_mem_nil, or_false] at hq
      rcases hq with rfl | rfl
      · exact tgO (by omega) rfl e26 (z := 0) rfl (by simp at f26 ⊢; omega)
      · exact tgO (by omega) rfl e28 (z := z6) rfl f28
  · intro u hu τ2 cl2 cs2 H2 C S u2 hp2 hH2 hk2 hC hS _
    cases List.mem_singleton.mp hu
    have hC : C = 0 := Nat.le_zero.mp hC
    have hS : S = 0 := Nat.le_zero.mp hS
    subst hC hS
    obtain ⟨r1, r2, r3, r4, r5, r6, r7⟩ := hp2
    cases sxSR_n r5
    obtain ⟨v0', n0, m0⟩ := r4.1 0 _ rfl
    cases (show v0' = .ref 78 from m0)
    obtain ⟨v2, n2, m2⟩ := r4.1 2 _ rfl
    obtain ⟨x2, rfl, i2⟩ := isS1_v m2 r1.2
    have g25 := tgVG (i := 78) (j := 25) (s := 0) (c := .ofNat z5.toNat) (by omega) r6 r1.2 (by simp [tgB1]) r1.2
    have g27 := tgVG (i := 78) (j := 27) (s := 1) (c := .ofNat 0) (by omega) r6 r1.2 (by simp [tgB1]) (u2 1 z6 rfl)
    have hMB : ∀ i j, i < 579 → ¬ (96 ≤ i ∧ i < 106) → ¬ (i = 78 ∧ (j = 25 ∨ j = 27)) → sxMd tgMB i j = false := by
      intro i j h1 h2 h3
      cases hm : sxMd tgMB i j with
      | false => rfl
      | true =>
        exfalso
        obtain ⟨q, q1, q2⟩ := List.any_eq_true.mp hm
        split at q2
        · rename_i e0
          simp only [tgMB, List.mem_append, List.mem_cons, List.not_mem_nil, or_false, List.mem_map, List.mem_range] at q1
          rcases q1 with (rfl | rfl) | ⟨r, hr, rfl⟩ | rfl
          · have : (25 : Nat) = j := beqOk q2
            have e : (78 : Nat) = i := sxMi_one (by decide) e0
            omega
          · have : (27 : Nat) = j := beqOk q2
            have e : (78 : Nat) = i := sxMi_one (by decide) e0
            omega
          · have e := sxMi_one (by omega) e0
            omega
          · have e := sxMi_one (by decide) e0
            omega
        · cases q2
    have same2 : ∀ {i j}, i < 579 → ¬ (96 ≤ i ∧ i < 106) → ¬ (i = 78 ∧ (j = 25 ∨ j = 27)) → ghV H2 i j = ghV H1 i j := by
      intro i j h1 h2 h3
      have : sxVw (ghL T V) scr 579 H2 i j = sxVw (ghL T V) scr 579 H1 i j := hk2 i j (hMB i j h1 h2 h3)
      rw [gvE h1, gvE h1] at this
      unfold ghV
      rw [this]
    have hrows : ∀ r, r < z5.toNat → ghV H2 (96 + r) 1 = ghV H1 (107 + r) 1 ∧ ghV H2 (96 + r) 2 = ghV H1 (107 + r) 2 := by
      intro r hr
      obtain ⟨m1, m2, m3, m4⟩ := tgRow_mem (R := r) (k := 0) (m := z5.toNat) (by omega) (by omega)
      have k1 : 2 * r + 2 < τ2.length := by rw [r1.1]; show 2 * r + 2 < 2 * z5.toNat + 2; omega
      have k2 : 2 * r + 3 < τ2.length := by rw [r1.1]; show 2 * r + 3 < 2 * z5.toNat + 2; omega
      have w : ∀ q ∈ tgRow 0 z5.toNat, q ∈ (tgB1 z5.toNat).2.2.2.2.2.1 := fun q hq => by simp [tgB1, hq]
      have a1 := tgVG (by omega) r6 r1.2 (w _ m1) (List.getElem?_eq_getElem k1)
      have a2 := tgVG (by omega) r6 r1.2 (w _ m2) (List.getElem?_eq_getElem k1)
      have a3 := tgVG (by omega) r6 r1.2 (w _ m3) (List.getElem?_eq_getElem k2)
      have a4 := tgVG (by omega) r6 r1.2 (w _ m4) (List.getElem?_eq_getElem k2)
      rw [same2 (by omega) (by omega) (by omega)] at a2 a4
      exact ⟨a1.trans a2.symm, a3.trans a4.symm⟩
    have hrc2 : ∀ j, ghRc H2 j = ghRc H1 j := by
      intro j
      by_cases hj : 339 + j < 579
      · exact same2 hj (by omega) (by omega)
      · have : ∀ Q : mjH, sxHR sxKw Q → ghRc Q j = 0 := by
          intro Q hQ
          unfold ghRc ghV sxEl
          rw [List.getElem?_eq_none (by rw [hQ.1]; exact Nat.not_lt.mp hj)]
        rw [this H2 hH2, this H1 hH1]
    refine tgLoop (H0 := H2) (H1 := H1) (R := z5.toNat) (c := z6.toNat) (v0 := sxVw (ghL T V) scr 579 H1) hd1 (by omega) (by omega) ?_ (z6.toNat - 0) 0 cl2 H2 rfl (by omega) hH2 (hk2.sub hs1) ⟨⟨n0, x2, n2, by rw [i2]; simp⟩, r4.2⟩ (fun j hj => by omega) hrc2 (by rw [g25]; simp) (by rw [g27]; simp; omega) (fun _ _ _ _ => rfl)
    intro x H' hx hH' hkp' hcc h25 hrow
    obtain ⟨za, zt, t1, t2, ⟨ta, tb⟩, ⟨tc, td⟩, te⟩ := hargs
    have hp2 : ghP2 H' := by
      intro k k1 k2
      rw [h25] at k2
      have hk : k < z5.toNat := by omega
      obtain ⟨w1, w2⟩ := hrows k hk
      rw [hrow (96 + k) 1 (by omega) (by omega), hrow (96 + k) 2 (by omega) (by omega), w1, w2]
      obtain ⟨q1, q2⟩ := hg1 k k1 (by rw [h26]; omega)
      exact (ghOk_congr fun i i1 i2 => hcc i (by rw [h28] at q2; omega)).mpr q1
    refine hpost (some (.int x)) H' 0 0 (τ ++ [x.toInt]) _ (show (4, [(1, .ofNat 0, .ofNat 200), (2, .ofNat 0, .ofNat 600), (3, .ofNat 0, .ofNat 10)], [(1, 2, .ofNat 0)], [], [isS1 3 (.ofNat 0)], [(78, (0, .ofNat 1), isS1 0 (.ofNat 0)), (579, (0, .ofNat 2), isS1 0 (.ofNat 1))], [], []) ∈ ctTng.2.2.2.2.1 by simp [ctTng, isS1]) (sxUp.app τ _) hH' ?_ (hk1.tr (hkp'.sub hs2)) (Nat.le_refl _) (Nat.le_refl _)
    have hl3 : τ.length = 3 := hpre0.1.1
    have up := sxUp.app τ [x.toInt]
    have s3 : (τ ++ [x.toInt])[3]? = some x.toInt := by
      rw [List.getElem?_append_right (by omega), hl3]
      rfl
    have h00 := up _ _ hpre0.1.2
    refine ⟨⟨by rw [List.length_append, hl3]; rfl, h00⟩, fun q hq => ?_, fun q hq => ?_, ⟨fun i a ha => (by cases ha), fun q hq => (by cases hq)⟩, ⟨isS1_of s3 (by simp), trivial⟩, fun q hq => ?_, fun q hq => (by cases hq), fun q hq => (by cases hq)⟩
    · simp only [List.mem_cons, List.not_mem_nil, or_false] at hq
      rcases hq with rfl | rfl | rfl
      · exact ⟨za, up _ _ t1, ta, tb⟩
      · exact ⟨zt, up _ _ t2, tc, td⟩
      · exact ⟨x.toInt, s3, by dsimp only; simp only [Int.ofNat_eq_natCast]; omega, by dsimp only; simp only [Int.ofNat_eq_natCast]; omega⟩
    · simp only [List.mem_cons, List.not_mem_nil, or_false] at hq
      subst hq
      exact ⟨za, zt, up _ _ t1, up _ _ t2, by dsimp only; simp only [Int.ofNat_eq_natCast]; omega⟩
    · simp only [List.mem_cons, List.not_mem_nil, or_false] at hq
      rcases hq with rfl | rfl
      · have e1 : sxVw (ghL T V) scr 579 H' 78 1 = sxVw (ghL T V) scr 579 H1 78 1 := hkp' 78 1 (by decide +kernel)
        rw [gvE (by omega), gvE (by omega)] at e1
        exact tgO (by omega) h00 (e1.trans et) (z := 0) h00 (by simpa using ft)
      · exact ⟨2, .int 1, ⟨0, h00, by simp⟩, by decide, (gvG (g := 2)).trans (ghB_of hp2), isS1_of (z := 0) h00 (by decide)⟩
end SXTNG

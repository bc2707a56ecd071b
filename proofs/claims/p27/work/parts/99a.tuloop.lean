/-! SX: the law's loop, from the state behind the constructors -/
section LWLOOP
def tuZ0 : sxMe := ((0, 0, 0), (0, 0, 0), (0, 0, 0))
def lwJ0 (J : Nat) : sxJb := ((sxKw, [], 1, some (1, 0)), [], mjLaw, tuLabs.map (fun pc => (pc, tuPc J, tuZ0, 0, 0)), 18, [tuR 18], [], (0, 0), [])
set_option maxRecDepth 1000000 in
theorem lwHead_ok {J : Nat} (hJ : J = 3 ∨ J = 11) : sxGo1 (lwJ0 J) none 100 (sxSt mjLaw 26 (tuP J) 0 0) = true := by rcases hJ with rfl | rfl <;> decide +kernel
def lwZ : mjO → Prop := fun o => o.1 = .inl (some (.int 1)) ∧ o.2.2.1 ≤ 601024 ∧ o.2.2.2 ≤ 7293034
variable {scr : Option (List Int32)} {d : Nat}
theorem lwOne {x : Int32} (h : x.toInt = 1) : x = 1 := Int32.toInt_inj.mp (by rw [h]; rfl)
theorem tuLoop (all : ∀ pc ∈ tuLabs, tuGood pc) (hd : tuNeed ≤ d) : ∀ (m : Nat) (J T : Nat) (τ : List Int) (cl : mjL) (cs : List Value) (H : mjH) (C S : Nat), (J = 3 ∨ J = 11) → sxPtR T 579 (sxVw (ghL T v00) scr 579 H) τ (tuP J) cl cs → τ[2]? = some (tLn T : Int) → sxSl τ (some (1, 0)) scr → sxHR sxKw H → sxMv τ (1, 3, 0) + 3072 < m → C + m ≤ 601024 → S + 6 * m ≤ 7293034 → mjRn lwZ scr [] d mjLaw 26 cl cs H C S
  | 0, J, T, τ, cl, cs, H, C, S, hJ, hp, hb, hsl, hH, hm, hC, hS => by
    exfalso
    obtain ⟨p1, p2, -⟩ := hp
    obtain ⟨a, a1, a2, a3⟩ := p2 (1, .ofNat 0, .ofNat 3072) (by simp [tuP])
    obtain ⟨b, b1, b2, b3⟩ := p2 (3, .ofNat 0, .ofNat 3072) (by simp [tuP])
    dsimp only at a1 a2 a3 b1 b2 b3
    simp only [Int.ofNat_eq_natCast] at a2 a3 b2 b3
    unfold sxMv at hm
    dsimp only at hm
    rw [List.getD_eq_getElem?_getD, List.getD_eq_getElem?_getD, a1, b1] at hm
    simp only [Option.getD_some] at hm
    omega
  | m + 1, J, T, τ, cl, cs, H, C, S, hJ, hp, hb, hsl, hH, hm, hC, hS => by
    have hl : τ.length = 18 := hp.1.1
    refine mjRn_in (c := C) (s := S) (C := 0) (S := 0) ?_
    refine sxSegX (J := lwJ0 J) (p := tuP J) (C0 := 0) (S0 := 0) (v0 := sxVw (ghL T v00) scr 579 H) (τ0 := τ) (τ := τ) (me := none) 100 (lwHead_ok hJ) ghGd (show sxKw.2.1 < mjScr by decide) (show 0 < 18 by decide) (fun c hc => (by cases hc)) (Nat.le_trans (show 1 ≤ tuNeed by decide) hd) sxUp.rf hl (fun b hb => (by cases hb)) hsl hp hH sxKp.rf (Nat.le_refl _) (Nat.le_refl _) ?_ ?_ (fun q hq => (by cases hq))
    · intro u hu τ1 cl1 cs1 H1 C1 S1 g1 g2 g3 g4 g5 g6 _
      obtain ⟨pc, hpc, rfl⟩ := List.mem_map.mp hu
      have hC1 : C1 = 0 := Nat.le_zero.mp g5
      have hS1 : S1 = 0 := Nat.le_zero.mp g6
      subst hC1 hS1
      obtain ⟨p1, p2, p3, p4, p5, p6, p7⟩ := g2
      cases sxSR_n p5
      have e1 : τ1 = τ := by
        refine List.ext_getElem? fun i => ?_
        by_cases hi : i < 18
        · rw [List.getElem?_eq_getElem (show i < τ.length by omega)]
          exact g1 i _ (List.getElem?_eq_getElem (show i < τ.length by omega))
        · have hl1 : τ1.length = 18 := p1.1
          rw [List.getElem?_eq_none (l := τ1) (by omega), List.getElem?_eq_none (l := τ) (by omega)]
      subst e1
      refine (show tuGoodJ J pc from hJ.elim (fun e => e ▸ (all pc hpc).1) (fun e => e ▸ (all pc hpc).2)) T scr _ d τ1 cl1 H1 hd g3 ⟨p1, p2, p3, p4, trivial, p6, p7⟩ hb hsl ?_ ?_
      · intro J2 T2 τ2 cl2 cs2 H2 C2 S2 hJ2 k1 kb k2 k3 k4 k5 k6
        have hsl2 : sxSl τ2 (some (1, 0)) scr := by
          obtain ⟨xs, s1, s2, y, s3, s4⟩ := hsl
          exact ⟨xs, s1, s2, y, by rw [k1]; exact s3, s4⟩
        refine mjRn_out (tuLoop all hd m J2 T2 τ2 cl2 cs2 H2 (C + C2) (S + S2) hJ2 k2 kb hsl2 k3 ?_ (by omega) (by omega))
        have : ((m + 1 : Nat) : Int) = (m : Int) + 1 := by omega
        omega
      · intro x H2 C2 S2 hx k4 k5
        rw [lwOne hx]
        exact ⟨rfl, by dsimp only; omega, by dsimp only; omega⟩
    · intro p hp' cv τ1 H1 C1 S1 g1 g2 g3 g4 g5 g6
      cases List.mem_singleton.mp hp'
      obtain ⟨x, rfl, hx⟩ := tuRes g2
      have hC1 : C1 = 0 := Nat.le_zero.mp g5
      have hS1 : S1 = 0 := Nat.le_zero.mp g6
      subst hC1 hS1
      rw [lwOne hx]
      exact ⟨rfl, by dsimp only; omega, by dsimp only; omega⟩
/-- does this value keep this? -/
noncomputable def lwFv (p : sxP) (a : aV) : Bool := match a with
  | .inl (.ref n) => (match p with | .inl rs => rs.any (fun q => Nat.beq q n) | .inr _ => false)
  | .inl (.int x) => (match p with | .inr (false, lo, hi) => (match iLe lo x.toInt with | true => iLe x.toInt hi | false => false) | _ => false)
  | .inl (.long x) => (match p with | .inr (true, lo, hi) => (match iLe lo x.toInt with | true => iLe x.toInt hi | false => false) | _ => false)
  | _ => false
theorem lwFv_ok {p : sxP} {a : aV} {v : Value} (h : lwFv p a = true) (ha : aVR a v) : sxPR p v := by
  unfold lwFv at h
  split at h
  · cases (show v = _ from ha)
    split at h
    · obtain ⟨q, h1, h2⟩ := List.any_eq_true.mp h
      exact ⟨q, h1, by rw [Nat.eq_of_beq_eq_true h2]⟩
    · cases h
  · cases (show v = _ from ha)
    split at h
    · split at h
      · rename_i e
        exact ⟨_, rfl, iLe_ok e, iLe_ok h⟩
      · cases h
    · cases h
  · cases (show v = _ from ha)
    split at h
    · split at h
      · rename_i e
        exact ⟨_, rfl, iLe_ok e, iLe_ok h⟩
      · cases h
    · cases h
  · cases h
noncomputable def lwFc (c : sxCl) (a : aC) : Bool := match Nat.beq c.1 a.1 with
  | true => (match Nat.beq c.2.1 a.2.1 with
    | true => (List.range c.2.1).all (fun j => match aGet2 a.2.2 j with
      | some v => (match (match c.2.2.1 with | some p => lwFv p v | none => true) with
        | true => (match aNth c.2.2.2 j with | some p => lwFv p v | none => true)
        | false => false)
      | none => false)
    | false => false)
  | false => false
theorem lwFc_ok {c : sxCl} {a : aC} {e : mjE} (h : lwFc c a = true) (ha : aCR a e) : sxCR c e := by
  unfold lwFc at h
  split at h
  · rename_i e1
    split at h
    · rename_i e2
      have e1 := beqOk e1
      have e2 := beqOk e2
      refine ⟨⟨e1.trans ha.1, e2.trans ha.2.1⟩, fun j v hv => ?_⟩
      have hj : j < e.2.length := (List.getElem?_eq_some_iff.mp hv).1
      have h1 := List.all_eq_true.mp h j (List.mem_range.mpr (by rw [e2, ha.2.1]; exact hj))
      obtain ⟨w, w1, w2⟩ := ha.2.2 j v hv
      rw [w1] at h1
      dsimp only at h1
      split at h1
      · rename_i q1
        refine ⟨fun p hp => ?_, fun p hp => ?_⟩
        · rw [hp] at q1
          exact lwFv_ok q1 w2
        · rw [hp] at h1
          exact lwFv_ok h1 w2
      · cases h1
    · cases h
  · cases h
set_option maxRecDepth 1000000 in
theorem lwFit_ok : (List.range 579).all (fun i => match aGet2 sxKw.1 i with
  | some c => (match aGet2 aS1H.2 i with | some a => lwFc c a | none => false)
  | none => true) = true := by decide +kernel
theorem lwFit {H : mjH} (h : aHR aS1H H) : sxHR sxKw H := by
  refine ⟨h.1.symm, fun i c hc hi => ?_⟩
  have hi : i < 579 := hi
  have h1 := List.all_eq_true.mp lwFit_ok i (List.mem_range.mpr hi)
  rw [hc] at h1
  dsimp only at h1
  have hlen : i < H.length := by rw [← h.1]; exact hi
  obtain ⟨a, a1, a2⟩ := h.2 i _ (List.getElem?_eq_getElem hlen)
  rw [a1] at h1
  exact ⟨_, List.getElem?_eq_getElem hlen, lwFc_ok h1 a2⟩
theorem lwCell {H : mjH} (h : aHR aS1H H) {i j : Nat} {z : Int} (hi : i < 579) (hz : ((aGet2 aS1H.2 i).bind (fun a => if j < a.2.1 then aGet2 a.2.2 j else none)) = some (aI z)) : sxEl H i j = some (.int (Int32.ofInt z)) := by
  have hlen : i < H.length := by rw [← h.1]; exact hi
  obtain ⟨a, a1, a2⟩ := h.2 i _ (List.getElem?_eq_getElem hlen)
  rw [a1] at hz
  simp only [Option.bind_some] at hz
  split at hz
  · rename_i hj
    have hj2 : j < H[i].2.length := by rw [← a2.2.1]; exact hj
    obtain ⟨w, w1, w2⟩ := a2.2.2 j _ (List.getElem?_eq_getElem hj2)
    cases Option.some.inj (hz.symm.trans w1)
    unfold sxEl
    rw [List.getElem?_eq_getElem hlen]
    dsimp only
    rw [List.getElem?_eq_getElem hj2]
    exact congrArg some w2
  · cases hz
theorem lwCellR {H : mjH} (h : aHR aS1H H) {i j n : Nat} (hi : i < 579) (hz : (match (aGet2 aS1H.2 i).bind (fun a => if j < a.2.1 then aGet2 a.2.2 j else none) with | some (.inl (.ref k)) => Nat.beq k n | _ => false) = true) : sxEl H i j = some (.ref n) := by
  have hlen : i < H.length := by rw [← h.1]; exact hi
  obtain ⟨a, a1, a2⟩ := h.2 i _ (List.getElem?_eq_getElem hlen)
  rw [a1] at hz
  simp only [Option.bind_some] at hz
  split at hz
  · rename_i k hk
    split at hk
    · rename_i hj
      have hj2 : j < H[i].2.length := by rw [← a2.2.1]; exact hj
      obtain ⟨w, w1, w2⟩ := a2.2.2 j _ (List.getElem?_eq_getElem hj2)
      cases Option.some.inj (hk.symm.trans w1)
      unfold sxEl
      rw [List.getElem?_eq_getElem hlen]
      dsimp only
      rw [List.getElem?_eq_getElem hj2, show (H[i].2)[j] = Value.ref k from w2, Nat.eq_of_beq_eq_true hz]
    · cases hk
  · cases hz
theorem rwBeg {T : Nat} {V : rdVt} {H : mjH} {r : rwR} (hr : r ∈ rwTab) (h : ghV H r.2.1.1 r.2.1.2 = 0) : ghL T V H r.1 = some (.int 1) := by
  rw [ghL_r hr, rwB_1]
  intro k k1 k2
  omega
theorem lwCellL {H : mjH} (h : aHR aS1H H) {i j : Nat} {z : Int} (hi : i < 579) (hz : (match (aGet2 aS1H.2 i).bind (fun a => if j < a.2.1 then aGet2 a.2.2 j else none) with | some (.inl (.long x)) => iEq x.toInt z | _ => false) = true) : rwEl H i j = some z := by
  have hlen : i < H.length := by rw [← h.1]; exact hi
  obtain ⟨a, a1, a2⟩ := h.2 i _ (List.getElem?_eq_getElem hlen)
  rw [a1] at hz
  simp only [Option.bind_some] at hz
  split at hz
  · rename_i x hx
    split at hx
    · rename_i hj
      have hj2 : j < H[i].2.length := by rw [← a2.2.1]; exact hj
      obtain ⟨w, w1, w2⟩ := a2.2.2 j _ (List.getElem?_eq_getElem hj2)
      cases Option.some.inj (hx.symm.trans w1)
      unfold rwEl sxEl
      rw [List.getElem?_eq_getElem hlen]
      dsimp only
      rw [List.getElem?_eq_getElem hj2, show (H[i].2)[j] = Value.long x from w2]
      dsimp only
      rw [iEq_ok hz]
    · cases hx
  · cases hz
set_option maxRecDepth 1000000 in
theorem lwLeft_ok : (List.range 52).all (fun j => (match (aGet2 aS1H.2 8).bind (fun a => if j < a.2.1 then aGet2 a.2.2 j else none) with | some (.inl (.long x)) => iEq x.toInt 65535 | _ => false) && (match (aGet2 aS1H.2 89).bind (fun a => if j < a.2.1 then aGet2 a.2.2 j else none) with | some (.inl (.long x)) => iEq x.toInt 65535 | _ => false)) = true := by decide +kernel
theorem ocBeg {T : Nat} {V : rdVt} {H : mjH} {r : ocTy} (hr : r ∈ ocTab) (h0 : ghV H r.2.1.1 0 = 4) (h1 : ghV H r.2.1.1 r.2.1.2 = 0) (h2 : ∀ w, w < 52 → rwEl H r.2.2.1.2.2 w = some 65535) : ghL T V H r.1.2 = some (.int 1) := by
  rw [ghL_O hr]
  refine ghB_of (fun w hw => ?_)
  unfold ocP
  rw [h1]
  show rwEl H r.2.2.1.2.2 ((w : Int)).toNat = some (tAll (ghV H r.2.1.1 0))
  rw [h0, show ((w : Int)).toNat = w from rfl, h2 w hw]
  rfl
theorem mj_law0 (all : ∀ pc ∈ tuLabs, tuGood pc) (xs : List Int32) (hxs : xs.length ≤ 3072) : mjRs lwZ (some xs) aS0 [] [(0, .ref mjScr)] [] [] := by
  have hR0 : aRel aS0 [] [(0, .ref mjScr)] [] [] := ⟨trivial, ⟨⟨rfl, rfl⟩, trivial⟩, trivial, rfl, fun i e h => by simp at h⟩
  have hboot := aS1_ok
  split at hboot
  · rename_i s1 e1
    obtain ⟨cF1, cl1, cs1, H1, r1, g1⟩ := aSeg_ok (Z := lwZ) (scrA := none) (scr := some xs) trivial 49200 e1 hR0
    obtain ⟨⟨r2, r3, r4, r5⟩, g2⟩ := aLeS_ok (Z := lwZ) (scr := some xs) hboot rfl r1
    refine g1 (g2 ?_)
    clear g1 g2 r1 e1 hboot
    cases cF1 with
    | cons _ _ => exact r2.elim
    | nil =>
      have hH : sxHR sxKw H1 := lwFit r5
      match cl1, r3 with
      | [q4, q3, q2, q1, q0], ⟨⟨a4, b4⟩, ⟨a3, b3⟩, ⟨a2, b2⟩, ⟨a1, b1⟩, ⟨a0, b0⟩, _⟩ =>
        obtain ⟨i4, v4⟩ := q4
        obtain ⟨i3, v3⟩ := q3
        obtain ⟨i2, v2⟩ := q2
        obtain ⟨i1, v1⟩ := q1
        obtain ⟨i0, v0⟩ := q0
        cases (show 4 = i4 from a4)
        cases (show 3 = i3 from a3)
        cases (show 2 = i2 from a2)
        cases (show 1 = i1 from a1)
        cases (show 0 = i0 from a0)
        cases (show v4 = .int (Int32.ofInt 0) from b4)
        cases (show v3 = .ref 578 from b3)
        cases (show v2 = .ref 78 from b2)
        cases (show v1 = .ref 0 from b1)
        cases (show v0 = .ref 3000000 from b0)
        match cs1, r4 with
        | [w1, w2], ⟨c1, c2, _⟩ =>
          cases (show w1 = .ref 3000000 from c1)
          cases (show w2 = .int (Int32.ofInt 0) from c2)
          have t1 := lwCell r5 (i := 1) (j := 1) (z := 0) (by decide) (by decide +kernel)
          have t2 := lwCell r5 (i := 78) (j := 1) (z := 0) (by decide) (by decide +kernel)
          have t3 := lwCell r5 (i := 78) (j := 25) (z := 0) (by decide) (by decide +kernel)
          have t4 := lwCell r5 (i := 82) (j := 0) (z := 4) (by decide) (by decide +kernel)
          have xr2 := lwCellR r5 (i := 0) (j := 2) (n := 3) (by decide) (by decide +kernel)
          have xr3 := lwCellR r5 (i := 0) (j := 3) (n := 11) (by decide) (by decide +kernel)
          have x0a := lwCell r5 (i := 3) (j := 0) (z := 4) (by decide) (by decide +kernel)
          have x0b := lwCell r5 (i := 82) (j := 0) (z := 4) (by decide) (by decide +kernel)
          have x1a := lwCell r5 (i := 3) (j := 2) (z := 0) (by decide) (by decide +kernel)
          have x1b := lwCell r5 (i := 82) (j := 1) (z := 0) (by decide) (by decide +kernel)
          have x2a := lwCell r5 (i := 3) (j := 3) (z := 0) (by decide) (by decide +kernel)
          have x2b := lwCell r5 (i := 82) (j := 2) (z := 0) (by decide) (by decide +kernel)
          have x3a := lwCell r5 (i := 3) (j := 4) (z := 0) (by decide) (by decide +kernel)
          have x3b := lwCell r5 (i := 82) (j := 3) (z := 0) (by decide) (by decide +kernel)
          have x4a := lwCell r5 (i := 27) (j := 2) (z := 0) (by decide) (by decide +kernel)
          have x4b := lwCell r5 (i := 82) (j := 4) (z := 0) (by decide) (by decide +kernel)
          have x5a := lwCell r5 (i := 27) (j := 1) (z := 0) (by decide) (by decide +kernel)
          have x5b := lwCell r5 (i := 82) (j := 5) (z := 0) (by decide) (by decide +kernel)
          have x6a := lwCell r5 (i := 0) (j := 9) (z := 0) (by decide) (by decide +kernel)
          have x6b := lwCell r5 (i := 78) (j := 22) (z := 0) (by decide) (by decide +kernel)
          have x7a := lwCell r5 (i := 52) (j := 2) (z := 0) (by decide) (by decide +kernel)
          have x7b := lwCell r5 (i := 92) (j := 0) (z := 0) (by decide) (by decide +kernel)
          have x8a := lwCell r5 (i := 52) (j := 1) (z := 0) (by decide) (by decide +kernel)
          have x8b := lwCell r5 (i := 92) (j := 1) (z := 0) (by decide) (by decide +kernel)
          have x9a := lwCell r5 (i := 54) (j := 2) (z := 0) (by decide) (by decide +kernel)
          have x9b := lwCell r5 (i := 93) (j := 0) (z := 0) (by decide) (by decide +kernel)
          have x10a := lwCell r5 (i := 54) (j := 1) (z := 0) (by decide) (by decide +kernel)
          have x10b := lwCell r5 (i := 93) (j := 1) (z := 0) (by decide) (by decide +kernel)
          have x11a := lwCell r5 (i := 56) (j := 2) (z := 0) (by decide) (by decide +kernel)
          have x11b := lwCell r5 (i := 94) (j := 0) (z := 0) (by decide) (by decide +kernel)
          have x12a := lwCell r5 (i := 56) (j := 1) (z := 0) (by decide) (by decide +kernel)
          have x12b := lwCell r5 (i := 94) (j := 1) (z := 0) (by decide) (by decide +kernel)
          have g20 : ghL 0 v00 H1 20 = some (.int 1) := rwBeg (r := (20, (3, 2), (4, 0), (56, 12))) (by decide) (by
            show ghV H1 3 2 = 0
            unfold ghV
            rw [x1a]
            rfl)
          have g21 : ghL 0 v00 H1 21 = some (.int 1) := rwBeg (r := (21, (3, 4), (4, 12), (57, 5))) (by decide) (by
            show ghV H1 3 4 = 0
            unfold ghV
            rw [x3a]
            rfl)
          have g22 : ghL 0 v00 H1 22 = some (.int 1) := rwBeg (r := (22, (3, 3), (6, 0), (58, 12))) (by decide) (by
            show ghV H1 3 3 = 0
            unfold ghV
            rw [x2a]
            rfl)
          have g23 : ghL 0 v00 H1 23 = some (.int 1) := rwBeg (r := (23, (3, 3), (7, 0), (59, 12))) (by decide) (by
            show ghV H1 3 3 = 0
            unfold ghV
            rw [x2a]
            rfl)
          have g32 : ghL 0 v00 H1 32 = some (.int 1) := rwBeg (r := (32, (82, 1), (86, 0), (56, 12))) (by decide) (by
            show ghV H1 82 1 = 0
            unfold ghV
            rw [x1b]
            rfl)
          have g33 : ghL 0 v00 H1 33 = some (.int 1) := rwBeg (r := (33, (82, 3), (86, 12), (57, 5))) (by decide) (by
            show ghV H1 82 3 = 0
            unfold ghV
            rw [x3b]
            rfl)
          have g34 : ghL 0 v00 H1 34 = some (.int 1) := rwBeg (r := (34, (82, 2), (88, 0), (58, 12))) (by decide) (by
            show ghV H1 82 2 = 0
            unfold ghV
            rw [x2b]
            rfl)
          have g35 : ghL 0 v00 H1 35 = some (.int 1) := rwBeg (r := (35, (82, 2), (84, 0), (59, 12))) (by decide) (by
            show ghV H1 82 2 = 0
            unfold ghV
            rw [x2b]
            rfl)
          have hlf : ∀ w, w < 52 → rwEl H1 8 w = some 65535 ∧ rwEl H1 89 w = some 65535 := fun w hw => by
            have h := List.all_eq_true.mp lwLeft_ok w (List.mem_range.mpr hw)
            rw [Bool.and_eq_true] at h
            exact ⟨lwCellL r5 (by decide) h.1, lwCellL r5 (by decide) h.2⟩
          have g38 : ghL 0 v00 H1 38 = some (.int 1) := ocBeg (r := ocJ3) (by decide) (by
            show ghV H1 3 0 = 4
            unfold ghV
            rw [x0a]
            rfl) (by
            show ghV H1 3 3 = 0
            unfold ghV
            rw [x2a]
            rfl) (fun w hw => (hlf w hw).1)
          have g40 : ghL 0 v00 H1 40 = some (.int 1) := ocBeg (r := ocF) (by decide) (by
            show ghV H1 82 0 = 4
            unfold ghV
            rw [x0b]
            rfl) (by
            show ghV H1 82 2 = 0
            unfold ghV
            rw [x2b]
            rfl) (fun w hw => (hlf w hw).2)
          have p2 : ghL 0 v00 H1 2 = some (.int 1) := ghB_of (fun k k1 k2 => by
            have : ghV H1 78 25 = 0 := by
              unfold ghV
              rw [t3]
              rfl
            omega)
          have p3 : ghL 0 v00 H1 3 = some (.int 1) := ghB_of (fun h => by
            have : ghV H1 82 0 = 4 := by
              unfold ghV
              rw [t4]
              rfl
            omega)
          have p5 : ghL 0 v00 H1 5 = some (.int 1) := ghB_of (fun k hk => absurd hk (by decide +revert))
          have p6 : ghL 0 v00 H1 6 = some (.int 1) := ghB_of (fun k hk => absurd hk (by decide +revert))
          refine tuLoop (scr := some xs) (d := 2040) all (by decide) 6146 3 0 [0, xs.length, 0, 0, 0, 4, 0, 0, 0, 0, 0, 0, 0, 0, 0, 0, 0, 0] _ _ H1 579 11688 (Or.inl rfl) ?_ rfl ⟨xs, rfl, by omega, xs.length, rfl, by simp⟩ hH ?_ (by decide) (by decide)
          · refine ⟨⟨rfl, rfl⟩, fun q hq => ?_, fun q hq => ?_, sxLR_of (fun q hq => ?_) (fun q hq => ?_), ⟨rfl, ⟨_, rfl, 0, rfl, by decide⟩, trivial⟩, fun q hq => ?_, fun q hq => (by cases hq), fun q hq => (by cases hq)⟩
            · simp only [tuP, List.mem_cons, List.not_mem_nil, or_false] at hq
              rcases hq with rfl | rfl | rfl | rfl | rfl | rfl | rfl | rfl | rfl | rfl | rfl | rfl | rfl | rfl | rfl | rfl | rfl
              · exact ⟨xs.length, rfl, by dsimp only; simp only [Int.ofNat_eq_natCast]; omega, by dsimp only; simp only [Int.ofNat_eq_natCast]; omega⟩
              · exact ⟨0, rfl, by decide, by decide⟩
              · exact ⟨0, rfl, by decide, by decide⟩
              · exact ⟨0, rfl, by decide, by decide⟩
              · exact ⟨4, rfl, by decide, by decide⟩
              · exact ⟨0, rfl, by decide, by decide⟩
              · exact ⟨0, rfl, by decide, by decide⟩
              · exact ⟨0, rfl, by decide, by decide⟩
              · exact ⟨0, rfl, by decide, by decide⟩
              · exact ⟨0, rfl, by decide, by decide⟩
              · exact ⟨0, rfl, by decide, by decide⟩
              · exact ⟨0, rfl, by decide, by decide⟩
              · exact ⟨0, rfl, by decide, by decide⟩
              · exact ⟨0, rfl, by decide, by decide⟩
              · exact ⟨0, rfl, by decide, by decide⟩
              · exact ⟨0, rfl, by decide, by decide⟩
              · exact ⟨0, rfl, by decide, by decide⟩
            · cases List.mem_singleton.mp hq
              exact ⟨0, 0, rfl, rfl, by decide⟩
            · simp only [tuP, List.mem_cons, List.not_mem_nil, or_false] at hq
              rcases hq with rfl | rfl | rfl | rfl | rfl
              · exact ⟨_, rfl, rfl⟩
              · exact ⟨_, rfl, rfl⟩
              · exact ⟨_, rfl, rfl⟩
              · exact ⟨_, rfl, rfl⟩
              · exact ⟨_, rfl, ⟨_, rfl, 0, rfl, by decide⟩⟩
            · simp only [List.mem_cons, List.not_mem_nil, or_false] at hq
              rcases hq with rfl | rfl | rfl | rfl | rfl <;> decide
            · simp only [tuP, List.mem_cons, List.not_mem_nil, or_false] at hq
              rcases hq with rfl | rfl | rfl | rfl | rfl | rfl | rfl | rfl | rfl | rfl | rfl | rfl | rfl | rfl | rfl | rfl | rfl | rfl | rfl | rfl | rfl | rfl | rfl | rfl | rfl | rfl | rfl | rfl | rfl | rfl | rfl | rfl | rfl | rfl | rfl | rfl | rfl | rfl | rfl | rfl | rfl | rfl | rfl | rfl
              · exact ⟨2, _, ⟨0, rfl, by decide⟩, by decide, (gvE (by decide)).trans xr2, rfl⟩
              · exact ⟨3, _, ⟨0, rfl, by decide⟩, by decide, (gvE (by decide)).trans xr3, rfl⟩
              · exact ⟨1, _, ⟨0, rfl, by decide⟩, by decide, (gvE (by decide)).trans t1, ⟨_, rfl, 0, rfl, by decide⟩⟩
              · exact ⟨1, _, ⟨0, rfl, by decide⟩, by decide, (gvE (by decide)).trans t2, ⟨_, rfl, 0, rfl, by decide⟩⟩
              · exact ⟨2, _, ⟨0, rfl, by decide⟩, by decide, gvG.trans p2, ⟨_, rfl, 0, rfl, by decide⟩⟩
              · exact ⟨3, _, ⟨0, rfl, by decide⟩, by decide, gvG.trans p3, ⟨_, rfl, 0, rfl, by decide⟩⟩
              · exact ⟨5, _, ⟨0, rfl, by decide⟩, by decide, gvG.trans p5, ⟨_, rfl, 0, rfl, by decide⟩⟩
              · exact ⟨6, _, ⟨0, rfl, by decide⟩, by decide, gvG.trans p6, ⟨_, rfl, 0, rfl, by decide⟩⟩
              · exact ⟨20, _, ⟨0, rfl, by decide⟩, by decide, gvG.trans g20, ⟨_, rfl, 0, rfl, by decide⟩⟩
              · exact ⟨21, _, ⟨0, rfl, by decide⟩, by decide, gvG.trans g21, ⟨_, rfl, 0, rfl, by decide⟩⟩
              · exact ⟨22, _, ⟨0, rfl, by decide⟩, by decide, gvG.trans g22, ⟨_, rfl, 0, rfl, by decide⟩⟩
              · exact ⟨23, _, ⟨0, rfl, by decide⟩, by decide, gvG.trans g23, ⟨_, rfl, 0, rfl, by decide⟩⟩
              · exact ⟨38, _, ⟨0, rfl, by decide⟩, by decide, gvG.trans g38, ⟨_, rfl, 0, rfl, by decide⟩⟩
              · exact ⟨32, _, ⟨0, rfl, by decide⟩, by decide, gvG.trans g32, ⟨_, rfl, 0, rfl, by decide⟩⟩
              · exact ⟨33, _, ⟨0, rfl, by decide⟩, by decide, gvG.trans g33, ⟨_, rfl, 0, rfl, by decide⟩⟩
              · exact ⟨34, _, ⟨0, rfl, by decide⟩, by decide, gvG.trans g34, ⟨_, rfl, 0, rfl, by decide⟩⟩
              · exact ⟨35, _, ⟨0, rfl, by decide⟩, by decide, gvG.trans g35, ⟨_, rfl, 0, rfl, by decide⟩⟩
              · exact ⟨40, _, ⟨0, rfl, by decide⟩, by decide, gvG.trans g40, ⟨_, rfl, 0, rfl, by decide⟩⟩
              · exact ⟨0, _, ⟨0, rfl, by decide⟩, by decide, (gvE (by decide)).trans x0a, ⟨_, rfl, 4, rfl, by decide⟩⟩
              · exact ⟨0, _, ⟨0, rfl, by decide⟩, by decide, (gvE (by decide)).trans x0b, ⟨_, rfl, 4, rfl, by decide⟩⟩
              · exact ⟨2, _, ⟨0, rfl, by decide⟩, by decide, (gvE (by decide)).trans x1a, ⟨_, rfl, 0, rfl, by decide⟩⟩
              · exact ⟨1, _, ⟨0, rfl, by decide⟩, by decide, (gvE (by decide)).trans x1b, ⟨_, rfl, 0, rfl, by decide⟩⟩
              · exact ⟨3, _, ⟨0, rfl, by decide⟩, by decide, (gvE (by decide)).trans x2a, ⟨_, rfl, 0, rfl, by decide⟩⟩
              · exact ⟨2, _, ⟨0, rfl, by decide⟩, by decide, (gvE (by decide)).trans x2b, ⟨_, rfl, 0, rfl, by decide⟩⟩
              · exact ⟨4, _, ⟨0, rfl, by decide⟩, by decide, (gvE (by decide)).trans x3a, ⟨_, rfl, 0, rfl, by decide⟩⟩
              · exact ⟨3, _, ⟨0, rfl, by decide⟩, by decide, (gvE (by decide)).trans x3b, ⟨_, rfl, 0, rfl, by decide⟩⟩
              · exact ⟨2, _, ⟨0, rfl, by decide⟩, by decide, (gvE (by decide)).trans x4a, ⟨_, rfl, 0, rfl, by decide⟩⟩
              · exact ⟨4, _, ⟨0, rfl, by decide⟩, by decide, (gvE (by decide)).trans x4b, ⟨_, rfl, 0, rfl, by decide⟩⟩
              · exact ⟨1, _, ⟨0, rfl, by decide⟩, by decide, (gvE (by decide)).trans x5a, ⟨_, rfl, 0, rfl, by decide⟩⟩
              · exact ⟨5, _, ⟨0, rfl, by decide⟩, by decide, (gvE (by decide)).trans x5b, ⟨_, rfl, 0, rfl, by decide⟩⟩
              · exact ⟨9, _, ⟨0, rfl, by decide⟩, by decide, (gvE (by decide)).trans x6a, ⟨_, rfl, 0, rfl, by decide⟩⟩
              · exact ⟨22, _, ⟨0, rfl, by decide⟩, by decide, (gvE (by decide)).trans x6b, ⟨_, rfl, 0, rfl, by decide⟩⟩
              · exact ⟨2, _, ⟨0, rfl, by decide⟩, by decide, (gvE (by decide)).trans x7a, ⟨_, rfl, 0, rfl, by decide⟩⟩
              · exact ⟨0, _, ⟨0, rfl, by decide⟩, by decide, (gvE (by decide)).trans x7b, ⟨_, rfl, 0, rfl, by decide⟩⟩
              · exact ⟨1, _, ⟨0, rfl, by decide⟩, by decide, (gvE (by decide)).trans x8a, ⟨_, rfl, 0, rfl, by decide⟩⟩
              · exact ⟨1, _, ⟨0, rfl, by decide⟩, by decide, (gvE (by decide)).trans x8b, ⟨_, rfl, 0, rfl, by decide⟩⟩
              · exact ⟨2, _, ⟨0, rfl, by decide⟩, by decide, (gvE (by decide)).trans x9a, ⟨_, rfl, 0, rfl, by decide⟩⟩
              · exact ⟨0, _, ⟨0, rfl, by decide⟩, by decide, (gvE (by decide)).trans x9b, ⟨_, rfl, 0, rfl, by decide⟩⟩
              · exact ⟨1, _, ⟨0, rfl, by decide⟩, by decide, (gvE (by decide)).trans x10a, ⟨_, rfl, 0, rfl, by decide⟩⟩
              · exact ⟨1, _, ⟨0, rfl, by decide⟩, by decide, (gvE (by decide)).trans x10b, ⟨_, rfl, 0, rfl, by decide⟩⟩
              · exact ⟨2, _, ⟨0, rfl, by decide⟩, by decide, (gvE (by decide)).trans x11a, ⟨_, rfl, 0, rfl, by decide⟩⟩
              · exact ⟨0, _, ⟨0, rfl, by decide⟩, by decide, (gvE (by decide)).trans x11b, ⟨_, rfl, 0, rfl, by decide⟩⟩
              · exact ⟨1, _, ⟨0, rfl, by decide⟩, by decide, (gvE (by decide)).trans x12a, ⟨_, rfl, 0, rfl, by decide⟩⟩
              · exact ⟨1, _, ⟨0, rfl, by decide⟩, by decide, (gvE (by decide)).trans x12b, ⟨_, rfl, 0, rfl, by decide⟩⟩
          · unfold sxMv
            dsimp only
            simp only [List.getD_cons_succ, List.getD_cons_zero]
            omega
  · cases hboot
theorem mj_law (all : ∀ pc ∈ tuLabs, tuGood pc) (xs : List Int32) (h : xs.length ≤ 3072) : ∃ (f : Nat) (hp' : mjH) (dc ds : Nat), mjEx f (some xs) 2040 mjLaw 0 [(0, .ref mjScr)] [] [] = some (.inl (some (.int 1)), hp', dc, ds) ∧ dc ≤ 601024 ∧ ds ≤ 7293034 := by
  obtain ⟨f, o, h1, h2, h3, h4⟩ := mj_law0 all xs h
  obtain ⟨o1, o2, o3, o4⟩ := o
  refine ⟨f, o2, o3, o4, ?_, by simpa [aS0] using h3, by simpa [aS0] using h4⟩
  have h2 : o1 = .inl (some (.int 1)) := h2
  subst h2
  exact h1
end LWLOOP

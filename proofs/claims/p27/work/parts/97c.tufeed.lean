/-! feed's turn -/
section TUFEED
noncomputable def fdN (a b : sxN) : Bool := match Nat.beq a.1 b.1 with | true => iEq a.2 b.2 | false => false
noncomputable def fdOe (O : sxO) (c j : Nat) (v : sxN) : Bool := O.any (fun q => match Nat.beq q.1 c with
  | true => (match fdN q.2.1 (4, Int.ofNat j) with
    | true => (match q.2.2 with | .inr (false, n) => fdN n v | _ => false)
    | false => false)
  | false => false)
noncomputable def fdS (s : sxN) : Bool := match Nat.beq s.1 0 with | true => iEq s.2 0 || (iEq s.2 8 || (iEq s.2 16 || iEq s.2 24)) | false => false
/-- these two are one byte -/
noncomputable def fdF (F : sxF) (v w : sxN) : Bool := F.any (fun b => match Nat.beq b.1 19 && (fdN b.2.2.1 (0, 0) && fdN b.2.2.2 v) with
  | true => F.any (fun a => match Nat.beq a.1 8 && (fdN a.2.2.2 b.2.1 && fdS a.2.2.1) with
    | true => F.any (fun c => match Nat.beq c.1 7 && (fdN c.2.1 a.2.1 && fdN c.2.2.1 a.2.2.1) with
      | true => F.any (fun e => Nat.beq e.1 2 && (fdN e.2.1 c.2.2.2 && (fdN e.2.2.1 (0, 255) && fdN e.2.2.2 w)))
      | false => false)
    | false => false)
  | false => false)
noncomputable def fdVs (O : sxO) (c j : Nat) : List sxN := O.filterMap (fun q => match Nat.beq q.1 c && fdN q.2.1 (4, Int.ofNat j) with
  | true => (match q.2.2 with | .inr (false, n) => some n | _ => none)
  | false => none)
noncomputable def fdJ (p : sxPt) (j : Nat) : Bool := (fdVs p.2.2.2.2.2.1 2 j).any (fun v => match fdOe p.2.2.2.2.2.1 2 j v with
  | true => (fdVs p.2.2.2.2.2.1 79 j).any (fun w => match fdOe p.2.2.2.2.2.1 79 j w with | true => fdF p.2.2.2.2.2.2.2 v w | false => false)
  | false => false)
theorem fdN_ok {a b : sxN} (h : fdN a b = true) : a = b := by
  unfold fdN at h
  split at h
  · rename_i e
    exact Prod.ext (Nat.eq_of_beq_eq_true e) (iEq_ok h)
  · cases h
variable {T : Nat} {V : rdVt} {scr : Option (List Int32)} {H : mjH} {τ : List Int} {cl : mjL} {cs : List Value} {p : sxPt}
theorem fdOe_ok {c j n : Nat} {v : sxN} (hc : c < 579) (h : fdOe p.2.2.2.2.2.1 c j v = true) (hp : sxPtR T 579 (sxVw (ghL T V) scr 579 H) τ p cl cs) (hf : τ[4]? = some (n : Int)) : ∃ x : Int32, sxEl H c (n + j) = some (.int x) ∧ sxNR τ v x.toInt := by
  obtain ⟨p1, p2, p3, p4, p5, p6, p7, p8⟩ := hp
  obtain ⟨q, q1, q2⟩ := List.any_eq_true.mp h
  split at q2
  · rename_i e1
    have e1 := Nat.eq_of_beq_eq_true e1
    split at q2
    · rename_i e2
      have e2 := fdN_ok e2
      split at q2
      · rename_i m hm
        have e3 := fdN_ok q2
        obtain ⟨z, w, ⟨y, y1, y2⟩, a2, a3, a4⟩ := p6 q q1
        rw [e2] at y1 y2
        dsimp only at y1 y2
        rw [hf] at y1
        cases Option.some.inj y1
        rw [hm] at a4
        obtain ⟨x, rfl, hx⟩ := a4
        rw [e1, show z.toNat = n + j by simp only [Int.ofNat_eq_natCast] at y2; omega, gvE hc] at a3
        exact ⟨x, a3, by rw [← e3]; exact hx⟩
      · cases q2
    · cases q2
  · cases q2
theorem sxNR_un {n : sxN} {y z : Int} (h1 : sxNR τ n y) (h2 : sxNR τ n z) : y = z := by
  obtain ⟨a, a1, a2⟩ := h1
  obtain ⟨b, b1, b2⟩ := h2
  rw [a1] at b1
  cases Option.some.inj b1
  omega
theorem fdF_ok {v w : sxN} {x y : Int} (h : fdF p.2.2.2.2.2.2.2 v w = true) (h0 : τ[0]? = some 0) (hF : ∀ q ∈ p.2.2.2.2.2.2.2, sxFt T τ q) (hv : sxNR τ v x) (hw : sxNR τ w y) : ((0 ≤ y ∧ y ≤ 255) ∧ -128 ≤ x ∧ x ≤ 127) ∧ y = if x < 0 then x + 256 else x := by
  unfold fdF at h
  obtain ⟨b, b1, b2⟩ := List.any_eq_true.mp h
  split at b2
  · rename_i b3
    simp only [Bool.and_eq_true] at b3
    obtain ⟨a, a1, a2⟩ := List.any_eq_true.mp b2
    split at a2
    · rename_i a3
      simp only [Bool.and_eq_true] at a3
      obtain ⟨c, c1, c2⟩ := List.any_eq_true.mp a2
      split at c2
      · rename_i c3
        simp only [Bool.and_eq_true] at c3
        obtain ⟨e, e1, e2⟩ := List.any_eq_true.mp c2
        simp only [Bool.and_eq_true] at e2
        obtain ⟨tb, zb, vb, hb1, hb2, hb3, hb4⟩ := hF b b1
        obtain ⟨na, sa, ta, ha1, ha2, ha3, ha4⟩ := hF a a1
        obtain ⟨nc, sc, uc, hc1, hc2, hc3, hc4⟩ := hF c c1
        obtain ⟨ue, ze, we, he1, he2, he3, he4⟩ := hF e e1
        rw [Nat.eq_of_beq_eq_true b3.1] at hb4
        rw [Nat.eq_of_beq_eq_true a3.1] at ha4
        rw [Nat.eq_of_beq_eq_true c3.1] at hc4
        rw [Nat.eq_of_beq_eq_true e2.1] at he4
        rw [fdN_ok b3.2.1] at hb2
        rw [fdN_ok b3.2.2] at hb3
        rw [fdN_ok a3.2.1] at ha3
        rw [fdN_ok c3.2.1] at hc1
        rw [fdN_ok c3.2.2] at hc2
        rw [fdN_ok e2.2.1] at he1
        rw [fdN_ok e2.2.2.1] at he2
        rw [fdN_ok e2.2.2.2] at he3
        have z0 : ∀ {k z : Int}, sxNR τ (0, k) z → z = k := fun {k z} ⟨a, a1, a2⟩ => by
          rw [h0] at a1
          cases Option.some.inj a1
          dsimp only at a2
          omega
        have k1 := z0 hb2
        have k2 := z0 he2
        have k3 := sxNR_un hb3 hv
        have k4 := sxNR_un he3 hw
        have k5 := sxNR_un ha3 hb1
        have k6 := sxNR_un hc1 ha1
        have k7 := sxNR_un hc2 ha2
        have k8 := sxNR_un hc3 he1
        subst k1 k2 k3 k4 k5 k6 k7 k8
        have hs : sc = 0 ∨ sc = 8 ∨ sc = 16 ∨ sc = 24 := by
          have hs := a3.2.2
          unfold fdS at hs
          split at hs
          · rename_i s1
            obtain ⟨g, g1, g2⟩ := ha2
            rw [Nat.eq_of_beq_eq_true s1, h0] at g1
            cases Option.some.inj g1
            simp only [Bool.or_eq_true] at hs
            rcases hs with hs | hs | hs | hs
            · have := iEq_ok hs; omega
            · have := iEq_ok hs; omega
            · have := iEq_ok hs; omega
            · have := iEq_ok hs; omega
          · cases hs
        exact bySem hs ha4 hb4 hc4 he4
      · cases c2
    · cases a2
  · cases b2
theorem fdJ_ok {j n : Nat} (h : fdJ p j = true) (hp : sxPtR T 579 (sxVw (ghL T V) scr 579 H) τ p cl cs) (hf : τ[4]? = some (n : Int)) : ∃ x y : Int32, sxEl H 2 (n + j) = some (.int x) ∧ sxEl H 79 (n + j) = some (.int y) ∧ ((0 ≤ y.toInt ∧ y.toInt ≤ 255) ∧ -128 ≤ x.toInt ∧ x.toInt ≤ 127) ∧ y.toInt = if x.toInt < 0 then x.toInt + 256 else x.toInt := by
  unfold fdJ at h
  obtain ⟨v, v1, v2⟩ := List.any_eq_true.mp h
  split at v2
  · rename_i v3
    obtain ⟨w, w1, w2⟩ := List.any_eq_true.mp v2
    split at w2
    · rename_i w3
      obtain ⟨x, x1, x2⟩ := fdOe_ok (by decide) v3 hp hf
      obtain ⟨y, y1, y2⟩ := fdOe_ok (by decide) w3 hp hf
      exact ⟨x, y, x1, y1, fdF_ok w2 hp.1.2 hp.2.2.2.2.2.2.2 x2 y2⟩
    · cases w2
  · cases v2
set_option maxRecDepth 1000000 in
theorem fdAll {J : Nat} (hJ : J = 3 ∨ J = 11) : (List.range 20).all (fdJ (tuFP J)) = true := by rcases hJ with rfl | rfl <;> decide +kernel
end TUFEED

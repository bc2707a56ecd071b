/-! SX: writing -/
noncomputable section SXWR
variable {T : Nat} {σ σ' : List Int} {vw vw' : Nat → Nat → Option Value} {B : sxB} {O : sxO} {G : sxG} {K : sxKx} {H : mjH} {x y : sxN} {X Y : Int} {M : sxMo}
/-- a value of which this holds -/
def sxVle (B : sxB) (a : sxV) (p : sxP) : Bool := match a with
  | .inl r => (match p with | .inl rs => rs.any (fun q => Nat.beq q r) | .inr _ => false)
  | .inr (k, n) => match p with
    | .inl _ => false
    | .inr (k2, lo, hi) => match bEq k k2 with
      | true => (match sxRg B n with
        | some q => (match iLe lo q.1 with | true => iLe q.2 hi | false => false)
        | none => false)
      | false => false
theorem sxVle_ok {a : sxV} {p : sxP} {v : Value} (hB : sxBR T σ B) (h : sxVle B a p = true) (hv : sxVR σ a v) : sxPR p v := by
  match a, hv with
  | .inl r, hv =>
    match p, h with
    | .inl rs, h =>
      obtain ⟨q, h1, h2⟩ := List.any_eq_true.mp (show rs.any (fun q => Nat.beq q r) = true from h)
      have h2 := Nat.eq_of_beq_eq_true h2
      subst h2
      exact ⟨q, h1, hv⟩
    | .inr _, h => cases h
  | .inr (k, n), hv =>
    match p, h with
    | .inl _, h => cases h
    | .inr (k2, lo, hi), h =>
      unfold sxVle at h
      dsimp only at h
      split at h
      · rename_i e
        have e := bEq_ok e
        subst e
        split at h
        · rename_i q hq
          split at h
          · rename_i h1
            have h1 := iLe_ok h1
            have h2 := iLe_ok h
            cases k
            · obtain ⟨z, rfl, hz⟩ := hv
              have := sxRg_ok hB hq hz
              exact ⟨z, rfl, by omega, by omega⟩
            · obtain ⟨z, rfl, hz⟩ := hv
              have := sxRg_ok hB hq hz
              exact ⟨z, rfl, by omega, by omega⟩
          · cases h
        · cases h
      · cases h
/-- a cell, or cells from there to there -/
def sxMi (q i : Nat) : Bool := match Nat.blt q 1000000 with
  | true => Nat.beq q i
  | false => match Nat.ble (q / 1000000) i with
    | true => Nat.ble i (q % 1000000)
    | false => false
/-- may this place be written here? -/
def sxMd (M : sxMo) (i : Nat) (j : Nat) : Bool := M.any (fun q => match sxMi q.1 i with | true => (match q.2 with | 0 => true | k + 1 => Nat.beq k j) | false => false)
def sxMx (M : sxMo) (i : Nat) (x : sxN) : Bool := match x.1 with
  | 0 => sxMd M i x.2.toNat
  | _ + 1 => M.any (fun q => match sxMi q.1 i with | true => (match q.2 with | 0 => true | _ + 1 => false) | false => false)
theorem sxMx_ok (hB : sxBR T σ B) {i : Nat} (h : sxMx M i x = true) (hx : sxNR σ x X) : sxMd M i X.toNat = true := by
  unfold sxMx at h
  obtain ⟨s, c⟩ := x
  dsimp only at h
  split at h
  · have := sxN0 hB hx
    subst this
    exact h
  · obtain ⟨q, h1, h2⟩ := List.any_eq_true.mp h
    refine List.any_eq_true.mpr ⟨q, h1, ?_⟩
    split at h2
    · rename_i e
      split at h2
      · rename_i e2
        first | rfl | (rw [e]; dsimp only; rw [e2])
      · cases h2
    · cases h2
/-- what is written stands so; of the rest, what is surely another place -/
def sxApart (B : sxB) (x y : sxN) : Bool := match Nat.beq x.1 y.1 with
  | true => (match iEq x.2 y.2 with | true => false | false => true)
  | false => match sxLe B x y (-1) with
    | true => true
    | false => sxLe B y x (-1)
theorem sxApart_ok (hB : sxBR T σ B) (h : sxApart B x y = true) (hx : sxNR σ x X) (hy : sxNR σ y Y) : X ≠ Y := by
  unfold sxApart at h
  split at h
  · rename_i e
    have e := Nat.eq_of_beq_eq_true e
    split at h
    · cases h
    · rename_i e2
      intro hxy
      obtain ⟨s, c⟩ := x
      obtain ⟨t, d⟩ := y
      dsimp only at e e2
      subst e
      obtain ⟨u, h1, h2⟩ := hx
      obtain ⟨w, h3, h4⟩ := hy
      cases Option.some.inj (h1.symm.trans h3)
      dsimp only at h2 h4
      have : c = d := by omega
      subst this
      rw [iEq_self] at e2
      cases e2
  · split at h
    · rename_i e
      have := sxLe_ok hB e hx hy
      omega
    · have := sxLe_ok hB h hy hx
      omega
/-- does a place of the ghost stand among these? -/
def sxKm (kl : List Nat) (y : sxN) : Bool := match y.1 with
  | 0 => kl.any (fun g => iEq y.2 (Int.ofNat g))
  | _ + 1 => true
theorem sxKm_ok {kl : List Nat} {z : Int} (hB : sxBR T σ B) (h : sxKm kl y = false) (hy : sxNR σ y z) (h0 : 0 ≤ z) : ¬ z.toNat ∈ kl := by
  intro hm
  unfold sxKm at h
  obtain ⟨s, c⟩ := y
  dsimp only at h
  split at h
  · have := sxN0 hB hy
    have h2 : kl.any (fun g => iEq c (Int.ofNat g)) = true := List.any_eq_true.mpr ⟨z.toNat, hm, by
      rw [show c = Int.ofNat z.toNat by simp only [Int.ofNat_eq_natCast]; omega]
      exact iEq_self _⟩
    rw [h] at h2
    cases h2
  · cases h
def sxOw (kl : List Nat) (n : Nat) (B : sxB) (i : Nat) (x : sxN) (l_ : sxO) : sxO := @List.rec _ (fun _ => sxO) ([]) (fun q _ ih => match Nat.beq q.1 i with
    | true => (match sxApart B q.2.1 x with
      | true => q :: ih
      | false => ih)
    | false => match kl with
      | [] => q :: ih
      | _ :: _ => match Nat.beq q.1 n with
        | false => q :: ih
        | true => match sxKm kl q.2.1 with
          | true => ih
          | false => q :: ih) l_
theorem sxOw_c {kl : List Nat} {n : Nat} {B : sxB} {i : Nat} {x : sxN} {q : Nat × sxN × sxV} {r : sxO} : sxOw kl n B i x (q :: r) = (match Nat.beq q.1 i with
    | true => (match sxApart B q.2.1 x with
      | true => q :: sxOw kl n B i x r
      | false => sxOw kl n B i x r)
    | false => match kl with
      | [] => q :: sxOw kl n B i x r
      | _ :: _ => match Nat.beq q.1 n with
        | false => q :: sxOw kl n B i x r
        | true => match sxKm kl q.2.1 with
          | true => sxOw kl n B i x r
          | false => q :: sxOw kl n B i x r) := rfl
def sxHul (p : sxP) (B : sxB) (a : sxV) : Option sxP := match p with
  | .inl _ => none
  | .inr (k, lo, hi) => match a with
    | .inl _ => none
    | .inr (k2, n) => match bEq k k2 with
      | true => (match sxRg B n with
        | some q => some (.inr (k, (match iLe lo q.1 with | true => lo | false => q.1), (match iLe q.2 hi with | true => hi | false => q.2)))
        | none => none)
      | false => none
theorem sxHul_ok {p p' : sxP} {a : sxV} {v w : Value} (hB : sxBR T σ B) (h : sxHul p B a = some p') (ha : sxVR σ a v) : sxPR p' v ∧ (sxPR p w → sxPR p' w) := by
  unfold sxHul at h
  split at h
  · cases h
  · rename_i k lo hi
    split at h
    · cases h
    · rename_i k2 n
      split at h
      · rename_i e
        have e := bEq_ok e
        subst e
        split at h
        · rename_i q hq
          cases h
          cases k
          · obtain ⟨z, rfl, hz⟩ := ha
            have h1 := sxRg_ok hB hq hz
            refine ⟨⟨z, rfl, ?_, ?_⟩, ?_⟩
            · split
              · rename_i e; have := iLe_ok e; omega
              · omega
            · split
              · rename_i e; have := iLe_ok e; omega
              · omega
            · rintro ⟨z', rfl, a1, a2⟩
              refine ⟨z', rfl, ?_, ?_⟩
              · split
                · exact a1
                · rename_i e; have := iLe_no e; omega
              · split
                · exact a2
                · rename_i e; have := iLe_no e; omega
          · obtain ⟨z, rfl, hz⟩ := ha
            have h1 := sxRg_ok hB hq hz
            refine ⟨⟨z, rfl, ?_, ?_⟩, ?_⟩
            · split
              · rename_i e; have := iLe_ok e; omega
              · omega
            · split
              · rename_i e; have := iLe_ok e; omega
              · omega
            · rintro ⟨z', rfl, a1, a2⟩
              refine ⟨z', rfl, ?_, ?_⟩
              · split
                · exact a1
                · rename_i e; have := iLe_no e; omega
              · split
                · exact a2
                · rename_i e; have := iLe_no e; omega
        · cases h
      · cases h
def sxGw (kl : List Nat) (n : Nat) (B : sxB) (i : Nat) (x : sxN) (a : sxV) (l_ : sxG) : sxG := @List.rec _ (fun _ => sxG) ([]) (fun q _ ih => match Nat.beq q.1 i with
    | true => (match sxSame q.2.1 x with
      | true => (match sxVle B a q.2.2 with
        | true => (i, (x.1, x.2 + 1), q.2.2) :: ih
        | false => match sxHul q.2.2 B a with
          | some p => (i, (x.1, x.2 + 1), p) :: q :: ih
          | none => q :: ih)
      | false => match sxLe B q.2.1 x 0 with
        | true => q :: ih
        | false => match sxHul q.2.2 B a with
          | some p => (i, q.2.1, p) :: ih
          | none => ih)
    | false => match kl with
      | [] => q :: ih
      | _ :: _ => match Nat.beq q.1 n with
        | true => ih
        | false => q :: ih) l_
theorem sxGw_c {kl : List Nat} {n : Nat} {B : sxB} {i : Nat} {x : sxN} {a : sxV} {q : Nat × sxN × sxP} {r : sxG} : sxGw kl n B i x a (q :: r) = (match Nat.beq q.1 i with
    | true => (match sxSame q.2.1 x with
      | true => (match sxVle B a q.2.2 with
        | true => (i, (x.1, x.2 + 1), q.2.2) :: sxGw kl n B i x a r
        | false => match sxHul q.2.2 B a with
          | some p => (i, (x.1, x.2 + 1), p) :: q :: sxGw kl n B i x a r
          | none => q :: sxGw kl n B i x a r)
      | false => match sxLe B q.2.1 x 0 with
        | true => q :: sxGw kl n B i x a r
        | false => match sxHul q.2.2 B a with
          | some p => (i, q.2.1, p) :: sxGw kl n B i x a r
          | none => sxGw kl n B i x a r)
    | false => match kl with
      | [] => q :: sxGw kl n B i x a r
      | _ :: _ => match Nat.beq q.1 n with
        | true => sxGw kl n B i x a r
        | false => q :: sxGw kl n B i x a r) := rfl
/-- a new row of such values, from its first place on -/
def sxGn0 (B : sxB) (i : Nat) (x : sxN) (a : sxV) (G : sxG) : sxG := match x.1 with
  | 0 => (match iEq x.2 0 with
    | true => (match G.any (fun q => Nat.beq q.1 i) with
      | true => G
      | false => match a with
        | .inl _ => G
        | .inr (k, n) => match sxRg B n with
          | some q => (i, (0, 1), .inr (k, q.1, q.2)) :: G
          | none => G)
    | false => G)
  | _ + 1 => G
/-- the world behind a writing -/
def sxWv (vw vw' : Nat → Nat → Option Value) (kl : List Nat) (n i j : Nat) (v : Value) : Prop := vw' i j = some v ∧ ∀ a b, ¬ (a = i ∧ b = j) → (a = n → ¬ b ∈ kl) → vw' a b = vw a b
theorem sxOw_ok {kl : List Nat} {n i : Nat} {v : Value} (hB : sxBR T σ B) (hx : sxNR σ x X) (h0 : 0 ≤ X) (hin : i ≠ n) (hw : sxWv vw vw' kl n i X.toNat v) : ∀ {O : sxO}, sxOR vw σ O → sxOR vw' σ (sxOw kl n B i x O)
  | [], _ => fun q hq => by cases hq
  | q :: r, hO => by
    have hr : sxOR vw' σ (sxOw kl n B i x r) := sxOw_ok hB hx h0 hin hw (fun q hq => hO q (List.mem_cons_of_mem _ hq))
    have keep : (∀ z : Int, sxNR σ q.2.1 z → 0 ≤ z → vw' q.1 z.toNat = vw q.1 z.toNat) → sxOR vw' σ (q :: sxOw kl n B i x r) := by
      intro hk q' hq'
      rcases List.mem_cons.mp hq' with rfl | hq'
      · obtain ⟨z, w, h1, h2, h3, h4⟩ := hO q' List.mem_cons_self
        exact ⟨z, w, h1, h2, by rw [hk z h1 h2]; exact h3, h4⟩
      · exact hr q' hq'
    rw [sxOw_c]
    split
    · rename_i e1
      have e1 := Nat.eq_of_beq_eq_true e1
      split
      · rename_i e2
        refine keep fun z hz h2 => hw.2 _ _ (fun hc => ?_) (fun hc => absurd (e1.symm.trans hc) hin)
        have := sxApart_ok hB e2 hz hx
        omega
      · exact hr
    · rename_i e1
      have e1 : ¬ q.1 = i := Nat.ne_of_beq_eq_false e1
      split
      · exact keep fun z _ _ => hw.2 _ _ (fun hc => e1 hc.1) (fun _ hm => by cases hm)
      · split
        · rename_i e2
          exact keep fun z _ _ => hw.2 _ _ (fun hc => e1 hc.1) (fun hc => absurd hc (Nat.ne_of_beq_eq_false e2))
        · split
          · exact hr
          · rename_i e3
            exact keep fun z hz h2 => hw.2 _ _ (fun hc => e1 hc.1) (fun _ => sxKm_ok hB e3 hz h2)
theorem sxGw_ok {kl : List Nat} {n i : Nat} {a : sxV} {v : Value} (hB : sxBR T σ B) (hx : sxNR σ x X) (ha : sxVR σ a v) (h0 : 0 ≤ X) (hin : i ≠ n) (hw : sxWv vw vw' kl n i X.toNat v) : ∀ {G : sxG}, sxGR vw σ G → sxGR vw' σ (sxGw kl n B i x a G)
  | [], _ => fun q hq => by cases hq
  | q :: r, hG => by
    have hr : sxGR vw' σ (sxGw kl n B i x a r) := sxGw_ok hB hx ha h0 hin hw (fun q hq => hG q (List.mem_cons_of_mem _ hq))
    obtain ⟨z, g1, g2⟩ := hG q List.mem_cons_self
    have put : ∀ {q' : Nat × sxN × sxP}, (∃ z : Int, sxNR σ q'.2.1 z ∧ ∀ (j : Nat) (w : Value), (j : Int) < z → vw' q'.1 j = some w → sxPR q'.2.2 w) → sxGR vw' σ (q' :: sxGw kl n B i x a r) := by
      intro q' h q1 hq1
      rcases List.mem_cons.mp hq1 with rfl | hq1
      · exact h
      · exact hr q1 hq1
    rw [sxGw_c]
    split
    · rename_i e1
      have e1 := Nat.eq_of_beq_eq_true e1
      have other : ∀ {j : Nat} {w : Value}, j ≠ X.toNat → vw' q.1 j = some w → vw q.1 j = some w := by
        intro j w hj hv
        rw [← hw.2 q.1 j (fun hc => hj hc.2) (fun hc => absurd (e1.symm.trans hc) hin)]
        exact hv
      split
      · rename_i e2
        have e2 := sxSame_ok e2
        rw [e2] at g1
        have := sxNR.un g1 hx
        subst this
        have stay : sxGR vw' σ (q :: sxGw kl n B i x a r) := put ⟨z, by rw [e2]; exact hx, fun j w hj hv => g2 j w hj (other (by omega) hv)⟩
        split
        · rename_i hp
          obtain ⟨u, f1, f2⟩ := g1
          refine put ⟨z + 1, ⟨u, f1, by dsimp only; omega⟩, fun j w hj hv => ?_⟩
          dsimp only at hv ⊢
          by_cases hjz : j = z.toNat
          · subst hjz
            rw [hw.1] at hv
            cases hv
            exact sxVle_ok hB hp ha
          · rw [← e1] at hv
            exact g2 j w (by omega) (other hjz hv)
        split
        · rename_i p hp
          obtain ⟨u, f1, f2⟩ := g1
          intro q1 hq1
          rcases List.mem_cons.mp hq1 with rfl | hq1
          · refine ⟨z + 1, ⟨u, f1, by dsimp only; omega⟩, fun j w hj hv => ?_⟩
            dsimp only at hv ⊢
            by_cases hjz : j = z.toNat
            · subst hjz
              rw [hw.1] at hv
              cases hv
              exact (sxHul_ok (w := v) hB hp ha).1
            · rw [← e1] at hv
              exact (sxHul_ok hB hp ha).2 (g2 j w (by omega) (other hjz hv))
          · exact stay q1 hq1
        · refine put ⟨z, by rw [e2]; exact hx, fun j w hj hv => g2 j w hj (other (by omega) hv)⟩
      · split
        · rename_i e2
          have := sxLe_ok hB e2 g1 hx
          exact put ⟨z, g1, fun j w hj hv => g2 j w hj (other (by omega) hv)⟩
        · split
          · rename_i p hp
            refine put ⟨z, g1, fun j w hj hv => ?_⟩
            dsimp only at hv ⊢
            by_cases hjz : j = X.toNat
            · subst hjz
              rw [hw.1] at hv
              cases hv
              exact (sxHul_ok (w := v) hB hp ha).1
            · rw [← e1] at hv
              exact (sxHul_ok hB hp ha).2 (g2 j w hj (other hjz hv))
          · exact hr
    · rename_i e1
      have e1 : ¬ q.1 = i := Nat.ne_of_beq_eq_false e1
      have same : (q.1 = n → ∀ j : Nat, ¬ j ∈ kl) → sxGR vw' σ (q :: sxGw kl n B i x a r) := fun hg => put ⟨z, g1, fun j w hj hv => g2 j w hj (by rw [← hw.2 q.1 j (fun hc => e1 hc.1) (fun hc => hg hc j)]; exact hv)⟩
      split
      · exact same (fun _ j hm => by cases hm)
      · split
        · exact hr
        · rename_i e2
          exact same (fun hc => absurd hc (Nat.ne_of_beq_eq_false e2))
theorem sxGn0_ok {i : Nat} {a : sxV} {v : Value} (hB : sxBR T σ B) (hx : sxNR σ x X) (ha : sxVR σ a v) (hv : vw i X.toNat = some v) (hG : sxGR vw σ G) : sxGR vw σ (sxGn0 B i x a G) := by
  unfold sxGn0
  obtain ⟨s, c⟩ := x
  dsimp only
  split
  · split
    · rename_i e
      have e := iEq_ok e
      subst e
      have hX := sxN0 hB hx
      subst hX
      split
      · exact hG
      · split
        · exact hG
        · rename_i k n
          split
          · rename_i q hq
            intro q1 hq1
            rcases List.mem_cons.mp hq1 with rfl | hq1
            · refine ⟨1, ⟨0, hB.1.2, by simp⟩, fun j w hj hw => ?_⟩
              have hj0 : j = 0 := by omega
              subst hj0
              cases Option.some.inj (hv.symm.trans hw)
              cases k
              · obtain ⟨z, rfl, hz⟩ := ha
                have := sxRg_ok hB hq hz
                exact ⟨z, rfl, this.1, this.2⟩
              · obtain ⟨z, rfl, hz⟩ := ha
                have := sxRg_ok hB hq hz
                exact ⟨z, rfl, this.1, this.2⟩
            · exact hG q1 hq1
          · exact hG
    · exact hG
  · exact hG
end SXWR

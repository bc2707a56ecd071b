/-! PX: the check of two runs, sound -/
noncomputable section PX7
def pxFitC (J : pxJb) (me : Option sxMe) (s s' : sxS) (u : pxCu) : Bool := match Nat.beq u.1.1 s.2.2.1 && Nat.beq u.1.2 s'.2.2.1 with
  | false => false
  | true => match Nat.ble s.2.2.2.2.2.2.2.2.1 u.2.2.2.1.1 && Nat.ble s.2.2.2.2.2.2.2.2.2 u.2.2.2.1.2 && (Nat.ble s'.2.2.2.2.2.2.2.2.1 u.2.2.2.2.1 && Nat.ble s'.2.2.2.2.2.2.2.2.2 u.2.2.2.2.2) with
    | false => false
    | true => pxFit J me u.2.2.1 u.2.1 s.2.2.2.1 s.2.2.2.2.1 s.2.2.2.2.2.2.1 s.2.2.2.2.2.2.2.1 s'.2.2.2.1 s'.2.2.2.2.1 s'.2.2.2.2.2.2.1 s'.2.2.2.2.2.2.2.1 s.2.2.2.2.2.1
def pxFitE (J : pxJb) (q q' : sxEd) (p : pxPt) : Bool := match Nat.ble q.2.2.2.2.1 J.1.2.2.2.2.2.2.2.1.1 && Nat.ble q.2.2.2.2.2 J.1.2.2.2.2.2.2.2.1.2 && (Nat.ble q'.2.2.2.2.1 J.2.1.2.2.2.2.2.2.2.1.1 && Nat.ble q'.2.2.2.2.2 J.2.1.2.2.2.2.2.2.2.1.2) with
  | false => false
  | true => pxFit J none ((0, 0, 0), (0, 0, 0), (0, 0, 0)) p [] q.1.toList q.2.2.1 q.2.2.2.1 [] q'.1.toList q'.2.2.1 q'.2.2.2.1 q.2.1
def pxTry (J : pxJb) (s s' : sxS) (l_ : List pxCq) : Option (List (sxE1 × sxE1)) := @List.rec _ (fun _ => Option (List (sxE1 × sxE1))) (none) (fun c _ ih => match pxApp J.1.1 J.2.1.1 c.1 c.2 s s' with
    | some L => some L
    | none => ih) l_
theorem pxTry_c {J : pxJb} {s s' : sxS} {c : pxCq} {r : List pxCq} : pxTry J s s' (c :: r) = (match pxApp J.1.1 J.2.1.1 c.1 c.2 s s' with
    | some L => some L
    | none => pxTry J s s' r) := rfl
theorem pxTry_mem {J : pxJb} {s s' : sxS} : ∀ {l : List pxCq} {L : List (sxE1 × sxE1)}, pxTry J s s' l = some L → ∃ c ∈ l, pxApp J.1.1 J.2.1.1 c.1 c.2 s s' = some L
  | [], _, h => by cases h
  | c :: r, L, h => by
    rw [pxTry_c] at h
    split at h
    · rename_i L2 hL2
      cases h
      exact ⟨c, List.mem_cons_self, hL2⟩
    · obtain ⟨c2, a, b⟩ := pxTry_mem h
      exact ⟨c2, List.mem_cons_of_mem _ a, b⟩
def pxStL (J : pxJb) (ih : sxE1 → sxE1 → Bool) (s : sxS) (e' : sxE1) : Bool := match sxNext J.1 s with
  | some L => L.all (fun e => pxEBk e fun B e1 => pxSBk B e' fun e2 => ih e1 e2)
  | none => false
def pxStR (J : pxJb) (ih : sxE1 → sxE1 → Bool) (e : sxE1) (s' : sxS) : Bool := match sxNext J.2.1 s' with
  | some L => L.all (fun e' => pxEBk e' fun B e1 => pxSBk B e fun e2 => ih e2 e1)
  | none => false
/-- both stand at a stop -/
def pxBoth (J : pxJb) (me : Option sxMe) (ih : sxE1 → sxE1 → Bool) : sxE1 → sxE1 → Bool
  | .inr (.inl q), .inr (.inl q') => J.2.2.2.2.1.any (pxFitE J q q')
  | .inl s, .inl s' => (match sxIsC J.1 s && sxIsC J.2.1 s' with
    | true => J.2.2.2.1.any (pxFitC J me s s')
    | false => match pxTry J s s' J.2.2.1 with
      | some L => L.all (fun q => ih q.1 q.2)
      | none => match sxIsC J.1 s with
        | true => pxStR J ih (.inl s) s'
        | false => pxStL J ih s (.inl s'))
  | .inl s, .inr e' => pxStL J ih s (.inr e')
  | .inr e, .inl s' => pxStR J ih (.inr e) s'
  | _, _ => false
def pxSt1 (J : pxJb) (me : Option sxMe) (ih : sxE1 → sxE1 → Bool) (e e' : sxE1) : Bool := match e with
  | .inl s => (match pxStop J.1 J.2.2.2.2.2.1 (.inl s) with
    | false => pxStL J ih s e'
    | true => match e' with
      | .inl s' => (match pxStop J.2.1 J.2.2.2.2.2.2 (.inl s') with
        | false => pxStR J ih (.inl s) s'
        | true => pxBoth J me ih (.inl s) (.inl s'))
      | .inr q' => pxBoth J me ih (.inl s) (.inr q'))
  | .inr q => pxBoth J me ih (.inr q) e'
/-- differences, each pair once -/
def sxDd (E : sxE) : sxE := List.rec (motive := fun _ => Nat → sxE → sxE) (fun _ acc => acc) (fun q _ ih seen acc => bFc (Nat.shiftLeft 1 (q.1 * 128 + q.2.1)) fun k => match Nat.beq (Nat.land seen k) 0 with | true => bFc (Nat.lor seen k) fun s2 => ih s2 (q :: acc) | false => ih seen acc) E 0 []
theorem sxDd_sub : ∀ {E : sxE} {q : Nat × Nat × Int}, q ∈ sxDd E → q ∈ E := by
  have key : ∀ (E : sxE) (seen : Nat) (acc : sxE) (q : Nat × Nat × Int), q ∈ List.rec (motive := fun _ => Nat → sxE → sxE) (fun _ acc => acc) (fun q _ ih seen acc => bFc (Nat.shiftLeft 1 (q.1 * 128 + q.2.1)) fun k => match Nat.beq (Nat.land seen k) 0 with | true => bFc (Nat.lor seen k) fun s2 => ih s2 (q :: acc) | false => ih seen acc) E seen acc → q ∈ E ∨ q ∈ acc := by
    intro E
    induction E with
    | nil => exact fun seen acc q h => Or.inr h
    | cons p E ih =>
      intro seen acc q h
      dsimp only at h
      rw [bFc_eq] at h
      split at h
      · rw [bFc_eq] at h
        rcases ih _ _ _ h with h | h
        · exact Or.inl (List.mem_cons_of_mem _ h)
        · rcases List.mem_cons.mp h with rfl | h
          · exact Or.inl List.mem_cons_self
          · exact Or.inr h
      · rcases ih _ _ _ h with h | h
        · exact Or.inl (List.mem_cons_of_mem _ h)
        · exact Or.inr h
  intro E q h
  rcases key E 0 [] q h with h | h
  · exact h
  · cases h
/-- where numbers have come up, doubles go -/
def pxIh (n : Nat) (ih : sxE1 → sxE1 → Bool) (e e' : sxE1) : Bool := pxEBk e fun B e1 => match Nat.ble (n + 3) B.1 with
  | false => ih e1 e'
  | true => match sxDd B.2.2.1 with
    | [] => ih e1 e'
    | q :: r => pxSBk (B.1, B.2.1, q :: r, B.2.2.2.1, B.2.2.2.2) e1 fun e2 => pxSBk (B.1, B.2.1, q :: r, B.2.2.2.1, B.2.2.2.2) e' fun e3 => ih e2 e3
def pxN (e : sxE1) : Nat := (pxEB e).1
def pxGo (J : pxJb) (me : Option sxMe) (n : Nat) : sxE1 → sxE1 → Bool := Nat.rec (fun _ _ => false) (fun _ ih e e' => bFc (pxN e) fun k => pxSt1 J me (pxIh k ih) e e') n
variable {J : pxJb} {me : Option sxMe} {gh : sxGh} {scr scr' : Option (List Int32)} {v0 v0' : Nat → Nat → Option Value} {d0 d0' : Nat} {τ τ0 : List Int} {Y : mjO → mjO → Prop}
/-- what the check is for -/
def pxQ1 (J : pxJb) (gh : sxGh) (scr scr' : Option (List Int32)) (v0 v0' : Nat → Nat → Option Value) (d0 d0' : Nat) (τ : List Int) (Y : mjO → mjO → Prop) (e e' : sxE1) : Prop :=
  ∀ (σ : List Int) (m m' : pxM), sxUp τ σ → pxSR J.1.1 gh scr v0 d0 σ e m → pxSR J.2.1.1 gh scr' v0' d0' σ e' m' → pxW scr scr' Y m m'
theorem pxStL_ok (hGd : sxGd J.1.1.1 gh) (hK : J.1.1.1.2.1 < mjScr) (hd0 : J.1.1.2.2.1 ≤ d0) (hV : ∀ ct ∈ J.1.2.1, sxCtV J.1.1.1 gh ct) {ih : sxE1 → sxE1 → Bool} (hi : ∀ e e', ih e e' = true → pxQ1 J gh scr scr' v0 v0' d0 d0' τ Y e e') {s : sxS} {e' : sxE1} (h : pxStL J ih s e' = true) : pxQ1 J gh scr scr' v0 v0' d0 d0' τ Y (.inl s) e' := by
  intro σ m m' hu hR hR'
  unfold pxStL at h
  split at h
  · rename_i L hL
    exact pxStep hGd hK hd0 hV hL hR hR' (fun e he σ2 m2 hu2 h1 h2 => hi e _ (by have q := List.all_eq_true.mp h e he; rw [pxEBk_eq, pxSBk_eq] at q; exact q) σ2 m2 m' (hu.tr hu2) h1 h2)
  · cases h
theorem pxStR_ok (hGd : sxGd J.2.1.1.1 gh) (hK : J.2.1.1.1.2.1 < mjScr) (hd0 : J.2.1.1.2.2.1 ≤ d0') (hV : ∀ ct ∈ J.2.1.2.1, sxCtV J.2.1.1.1 gh ct) {ih : sxE1 → sxE1 → Bool} (hi : ∀ e e', ih e e' = true → pxQ1 J gh scr scr' v0 v0' d0 d0' τ Y e e') {s' : sxS} {e : sxE1} (h : pxStR J ih e s' = true) : pxQ1 J gh scr scr' v0 v0' d0 d0' τ Y e (.inl s') := by
  intro σ m m' hu hR hR'
  unfold pxStR at h
  split at h
  · rename_i L hL
    exact pxStepR hGd hK hd0 hV hL hR' hR (fun e2 he σ2 m2 hu2 h1 h2 => hi _ e2 (by have q := List.all_eq_true.mp h e2 he; rw [pxEBk_eq, pxSBk_eq] at q; exact q) σ2 m m2 (hu.tr hu2) h2 h1)
  · cases h
theorem pxIh_ok {n : Nat} {ih : sxE1 → sxE1 → Bool} (hi : ∀ e e', ih e e' = true → pxQ1 J gh scr scr' v0 v0' d0 d0' τ Y e e') : ∀ e e', pxIh n ih e e' = true → pxQ1 J gh scr scr' v0 v0' d0 d0' τ Y e e' := by
  intro e e' h
  unfold pxIh at h
  rw [pxEBk_eq] at h
  split at h
  · exact hi _ _ h
  · split at h
    · exact hi _ _ h
    · rename_i q r hq
      rw [pxSBk_eq, pxSBk_eq] at h
      intro σ m m' hu hR hR'
      have hB := pxSR_B hR
      have hB2 : sxBR (gT gh) σ ((pxEB e).1, (pxEB e).2.1, q :: r, (pxEB e).2.2.2.1, (pxEB e).2.2.2.2) := ⟨hB.1, hB.2.1, fun x hx => hB.2.2.1 x (sxDd_sub (by rw [hq]; exact hx)), hB.2.2.2⟩
      exact hi _ _ h σ m m' hu (hR.up sxUp.rf hB2) (hR'.up sxUp.rf hB2)
end PX7

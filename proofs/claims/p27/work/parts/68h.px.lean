/-! PX: the check of two runs, sound: all of it -/
noncomputable section PX8
variable {J : pxJb} {me : Option sxMe} {gh : sxGh} {scr scr' : Option (List Int32)} {v0 v0' : Nat → Nat → Option Value} {d0 d0' : Nat} {τ τ0 : List Int} {Y : mjO → mjO → Prop}
theorem pxVv_S {σ : List Int} {v : Option sxV} {cv : Option Value} (h : pxVv σ v cv) : sxSR σ v.toList cv.toList := by
  cases v <;> cases cv
  · exact trivial
  · exact h.elim
  · exact h.elim
  · exact ⟨h, trivial⟩
def pxHC (J : pxJb) (me : Option sxMe) (gh : sxGh) (scr scr' : Option (List Int32)) (v0 v0' : Nat → Nat → Option Value) (d0 d0' : Nat) (τ0 τ : List Int) (Y : mjO → mjO → Prop) : Prop :=
  ∀ u ∈ J.2.2.2.1, ∀ (τ' : List Int) (cl : mjL) (cs : List Value) (H : mjH) (C S : Nat) (cl' : mjL) (cs' : List Value) (H' : mjH) (C' S' : Nat), sxUp τ0 τ' → sxPtR (gT gh) J.1.1.1.2.1 (sxVw gh scr J.1.1.1.2.1 H) τ' u.2.1.1 cl cs → sxPtR (gT gh) J.1.1.1.2.1 (sxVw gh scr' J.1.1.1.2.1 H') τ' u.2.1.2 cl' cs' →
    sxHR J.1.1.1 H → sxHR J.1.1.1 H' → sxKp J.1.1.2.1 v0 (sxVw gh scr J.1.1.1.2.1 H) → sxKp J.2.1.1.2.1 v0' (sxVw gh scr' J.1.1.1.2.1 H') → (C ≤ u.2.2.2.1.1 ∧ S ≤ u.2.2.2.1.2) → (C' ≤ u.2.2.2.2.1 ∧ S' ≤ u.2.2.2.2.2) → (∀ b, me = some b → sxLt3 (sxMvs τ' u.2.2.1) (sxMvs τ b)) →
    pxW scr scr' Y (.inl ([], d0, J.1.2.2.1, u.1.1, cl, cs, H, C, S)) (.inl ([], d0', J.2.1.2.2.1, u.1.2, cl', cs', H', C', S'))
def pxHE (J : pxJb) (gh : sxGh) (scr scr' : Option (List Int32)) (v0 v0' : Nat → Nat → Option Value) (τ0 : List Int) (Y : mjO → mjO → Prop) : Prop :=
  ∀ p ∈ J.2.2.2.2.1, ∀ (τ' : List Int) (cv : Option Value) (H : mjH) (C S : Nat) (cv' : Option Value) (H' : mjH) (C' S' : Nat), sxUp τ0 τ' → sxPtR (gT gh) J.1.1.1.2.1 (sxVw gh scr J.1.1.1.2.1 H) τ' p.1 [] cv.toList → sxPtR (gT gh) J.1.1.1.2.1 (sxVw gh scr' J.1.1.1.2.1 H') τ' p.2 [] cv'.toList →
    sxHR J.1.1.1 H → sxHR J.1.1.1 H' → sxKp J.1.1.2.1 v0 (sxVw gh scr J.1.1.1.2.1 H) → sxKp J.2.1.1.2.1 v0' (sxVw gh scr' J.1.1.1.2.1 H') → (C ≤ J.1.2.2.2.2.2.2.2.1.1 ∧ S ≤ J.1.2.2.2.2.2.2.2.1.2) → (C' ≤ J.2.1.2.2.2.2.2.2.2.1.1 ∧ S' ≤ J.2.1.2.2.2.2.2.2.2.1.2) → Y (.inl cv, H, C, S) (.inl cv', H', C', S')
theorem pxBoth_ok (hJ : J.2.1.1.1 = J.1.1.1) (hGd : sxGd J.1.1.1 gh) (hK : J.1.1.1.2.1 < mjScr) (hd0 : J.1.1.2.2.1 ≤ d0) (hd0' : J.2.1.1.2.2.1 ≤ d0') (hV : ∀ ct ∈ J.1.2.1, sxCtV J.1.1.1 gh ct) (hV' : ∀ ct ∈ J.2.1.2.1, sxCtV J.1.1.1 gh ct) (hW : ∀ q ∈ J.2.2.1, pxCtW J.1.1.1 gh q.1 (pxOk q.2 q.1 τ0) ∧ pxWk q.2 J.1.1.2.2.1 J.2.1.1.2.2.1 τ0 d0 d0')
    (hu0 : sxUp τ0 τ) (hτ0 : τ0.length = J.1.2.2.2.2.1) (hr : 0 < J.1.2.2.2.2.1) (hmi : ∀ b, me = some b → sxMin b τ.length) (hC : pxHC J me gh scr scr' v0 v0' d0 d0' τ0 τ Y) (hE : pxHE J gh scr scr' v0 v0' τ0 Y)
    {ih : sxE1 → sxE1 → Bool} (hi : ∀ e e', ih e e' = true → pxQ1 J gh scr scr' v0 v0' d0 d0' τ Y e e') {e e' : sxE1} (h : pxBoth J me ih e e' = true) : pxQ1 J gh scr scr' v0 v0' d0 d0' τ Y e e' := by
  have hGd' : sxGd J.2.1.1.1 gh := by rw [hJ]; exact hGd
  have hK' : J.2.1.1.1.2.1 < mjScr := by rw [hJ]; exact hK
  have hV2 : ∀ ct ∈ J.2.1.2.1, sxCtV J.2.1.1.1 gh ct := by rw [hJ]; exact hV'
  match e, e', h with
  | .inr (.inl (v, B, O, G, C0, S0)), .inr (.inl (v', B', O', G', C0', S0')), h =>
    intro σ m m' hu hR hR'
    match m, m', hR, hR' with
    | .inr o, .inr o', hR, hR' =>
      obtain ⟨cv, H, C, S, ea, a1, a2, a3, a4⟩ := hR
      obtain ⟨cv', H', C', S', eb, b1, b2, b3, b4⟩ := hR'
      subst ea eb
      obtain ⟨p, hp, hf⟩ := List.any_eq_true.mp (show J.2.2.2.2.1.any (pxFitE J (v, B, O, G, C0, S0) (v', B', O', G', C0', S0')) = true from h)
      unfold pxFitE at hf
      split at hf
      · cases hf
      · rename_i hcs
        simp only [Bool.and_eq_true, Nat.ble_eq] at hcs
        obtain ⟨τ', t1, t2, t3, -⟩ := pxFit_ok (cl := []) (cl' := []) hJ hτ0 hr (me := none) (τ := τ) (fun b hb => (by cases hb)) hu0 hu hf ⟨fun i a ha => (by cases ha), fun q hq => (by cases hq)⟩ (pxVv_S a1) a2 ⟨fun i a ha => (by cases ha), fun q hq => (by cases hq)⟩ (pxVv_S b1) b2
        obtain ⟨-, y1, -, -, y4, -⟩ := b2
        rw [hJ] at y1 y4
        exact hE p hp τ' cv H C S cv' H' C' S' t1 t2 t3 a2.2.1 y1 a2.2.2.2.2.1 y4 ⟨by omega, by omega⟩ ⟨by omega, by omega⟩
  | .inl s, .inl s', h =>
    have h : (match sxIsC J.1 s && sxIsC J.2.1 s' with
      | true => J.2.2.2.1.any (pxFitC J me s s')
      | false => match pxTry J s s' J.2.2.1 with
        | some L => L.all (fun q => ih q.1 q.2)
        | none => match sxIsC J.1 s with
          | true => pxStR J ih (.inl s) s'
          | false => pxStL J ih s (.inl s')) = true := h
    split at h
    · rename_i hcc
      rw [Bool.and_eq_true] at hcc
      intro σ m m' hu hR hR'
      obtain ⟨u, hu1, hf⟩ := List.any_eq_true.mp h
      match m, m', hR, hR' with
      | .inl (cF, d, k, pc, cl, cs, H, C, S), .inl (cF', d', k', pc', cl', cs', H', C', S'), hR, hR' =>
        obtain ⟨F, k1, pc1, ls, st, B, O, G, C0, S0⟩ := s
        obtain ⟨F', k1', pc1', ls', st', B', O', G', C0', S0'⟩ := s'
        obtain ⟨⟨r1, r2⟩, ⟨hF, hdd⟩, hl, hs, hH, hC1, hS1⟩ := hR
        obtain ⟨⟨r1', r2'⟩, ⟨hF', hdd'⟩, hl', hs', hH', hC1', hS1'⟩ := hR'
        dsimp only at r1 r2 r1' r2' hF hF' hdd hdd' hl hl' hs hs' hH hH' hC1 hS1 hC1' hS1' hcc
        subst r1 r2 r1' r2'
        rw [hJ] at hl' hF'
        obtain ⟨c1, c2⟩ := hcc
        unfold sxIsC at c1 c2
        dsimp only at c1 c2
        split at c1
        · split at c2
          · split at c1
            · rename_i k9
              split at c2
              · rename_i k9'
                have k9 := Nat.eq_of_beq_eq_true k9
                have k9' := Nat.eq_of_beq_eq_true k9'
                unfold pxFitC at hf
                split at hf
                · cases hf
                · rename_i hpc
                  rw [Bool.and_eq_true] at hpc
                  have p1 := Nat.eq_of_beq_eq_true hpc.1
                  have p2 := Nat.eq_of_beq_eq_true hpc.2
                  split at hf
                  · cases hf
                  · rename_i hcs
                    simp only [Bool.and_eq_true, Nat.ble_eq] at hcs
                    dsimp only at p1 p2 hcs hf
                    obtain ⟨τ', t1, t2, t3, t4⟩ := pxFit_ok hJ hτ0 hr hmi hu0 hu hf hl hs hH hl' hs' hH'
                    cases cF with
                    | cons _ _ => exact hF.elim
                    | nil =>
                      cases cF' with
                      | cons _ _ => exact hF'.elim
                      | nil =>
                        have e1 : d = d0 := by simpa using hdd
                        have e2 : d' = d0' := by simpa using hdd'
                        subst e1 e2
                        rw [k9, k9', ← p1, ← p2]
                        obtain ⟨-, y1, -, -, y4, -⟩ := hH'
                        rw [hJ] at y1 y4
                        exact hC u hu1 τ' cl cs H C S cl' cs' H' C' S' t1 t2 t3 hH.2.1 y1 hH.2.2.2.2.1 y4 ⟨by omega, by omega⟩ ⟨by omega, by omega⟩ t4
              · cases c2
            · cases c1
          · cases c2
        · cases c1
    · split at h
      · rename_i L hL
        obtain ⟨c, hc, ha⟩ := pxTry_mem hL
        intro σ m m' hu hR hR'
        exact pxApp_ok hJ (hW c hc).1 (hW c hc).2 (hu0.tr hu) ha hd0 hd0' hR hR' (fun q hq σ2 m2 m2' hu2 h1 h2 => hi q.1 q.2 (List.all_eq_true.mp h q hq) σ2 m2 m2' (hu.tr hu2) h1 h2)
      · split at h
        · exact pxStR_ok hGd' hK' hd0' hV2 hi h
        · exact pxStL_ok hGd hK hd0 hV hi h
  | .inl s, .inr q', h => exact pxStL_ok hGd hK hd0 hV hi h
  | .inr q, .inl s', h =>
    have h : pxStR J ih (.inr q) s' = true := by
      cases q <;> exact h
    exact pxStR_ok hGd' hK' hd0' hV2 hi h
  | .inr (.inr _), .inr _, h => cases h
  | .inr (.inl _), .inr (.inr _), h => cases h
/-- k steps, then f -/
def pxGoK (J : pxJb) (me : Option sxMe) (k : Nat) (f : sxE1 → sxE1 → Bool) : sxE1 → sxE1 → Bool := Nat.rec f (fun _ ih e e' => bFc (pxN e) fun k => pxSt1 J me (pxIh k ih) e e') k
theorem pxGoK_ok (hJ : J.2.1.1.1 = J.1.1.1) (hGd : sxGd J.1.1.1 gh) (hK : J.1.1.1.2.1 < mjScr) (hd0 : J.1.1.2.2.1 ≤ d0) (hd0' : J.2.1.1.2.2.1 ≤ d0') (hV : ∀ ct ∈ J.1.2.1, sxCtV J.1.1.1 gh ct) (hV' : ∀ ct ∈ J.2.1.2.1, sxCtV J.1.1.1 gh ct) (hW : ∀ q ∈ J.2.2.1, pxCtW J.1.1.1 gh q.1 (pxOk q.2 q.1 τ0) ∧ pxWk q.2 J.1.1.2.2.1 J.2.1.1.2.2.1 τ0 d0 d0')
    (hu0 : sxUp τ0 τ) (hτ0 : τ0.length = J.1.2.2.2.2.1) (hr : 0 < J.1.2.2.2.2.1) (hmi : ∀ b, me = some b → sxMin b τ.length) (hC : pxHC J me gh scr scr' v0 v0' d0 d0' τ0 τ Y) (hE : pxHE J gh scr scr' v0 v0' τ0 Y)
    {f : sxE1 → sxE1 → Bool} (hf : ∀ e e', f e e' = true → pxQ1 J gh scr scr' v0 v0' d0 d0' τ Y e e') :
    ∀ (n : Nat) (e e' : sxE1), pxGoK J me n f e e' = true → pxQ1 J gh scr scr' v0 v0' d0 d0' τ Y e e'
  | 0, _, _, h => hf _ _ h
  | n + 1, e, e', h => by
    have hi0 := pxGoK_ok hJ hGd hK hd0 hd0' hV hV' hW hu0 hτ0 hr hmi hC hE hf n
    have h : (bFc (pxN e) fun k => pxSt1 J me (pxIh k (pxGoK J me n f)) e e') = true := h
    rw [bFc_eq] at h
    have hi := pxIh_ok (n := pxN e) hi0
    generalize pxIh (pxN e) (pxGoK J me n f) = ih2 at hi h
    have hb : ∀ {e e' : sxE1}, pxBoth J me ih2 e e' = true → pxQ1 J gh scr scr' v0 v0' d0 d0' τ Y e e' := fun h => pxBoth_ok hJ hGd hK hd0 hd0' hV hV' hW hu0 hτ0 hr hmi hC hE hi h
    have hGd' : sxGd J.2.1.1.1 gh := by rw [hJ]; exact hGd
    have hK' : J.2.1.1.1.2.1 < mjScr := by rw [hJ]; exact hK
    have hV2 : ∀ ct ∈ J.2.1.2.1, sxCtV J.2.1.1.1 gh ct := by rw [hJ]; exact hV'
    unfold pxSt1 at h
    cases e with
    | inr q => exact hb h
    | inl s =>
      dsimp only at h
      split at h
      · exact pxStL_ok hGd hK hd0 hV hi h
      · cases e' with
        | inr q' => exact hb h
        | inl s' =>
          dsimp only at h
          split at h
          · exact pxStR_ok hGd' hK' hd0' hV2 hi h
          · exact hb h
theorem pxGo_K (n : Nat) : pxGo J me n = pxGoK J me n (fun _ _ => false) := rfl
/-- what a check asks of its ways on, it may ask piece by piece -/
def pxCj (Φ : (sxE1 → sxE1 → Bool) → Bool) : Prop := ∀ (m : Nat) (g : Nat → sxE1 → sxE1 → Bool), 0 < m → (∀ i, i < m → Φ (g i) = true) → Φ (fun e e' => (List.range m).all (fun i => g i e e')) = true
theorem pxCj_id (e e' : sxE1) : pxCj (fun ih => ih e e') := fun m g _ h => List.all_eq_true.mpr (fun i hi => h i (List.mem_range.mp hi))
theorem pxCj_c (b : Bool) : pxCj (fun _ => b) := fun m g hm h => h 0 hm
theorem pxStL_cj {s : sxS} {e' : sxE1} {G : (sxE1 → sxE1 → Bool) → sxE1 → sxE1 → Bool} (hG : ∀ e e', pxCj (fun ih => G ih e e')) : pxCj (fun ih => pxStL J (G ih) s e') := by
  intro m g hm h
  unfold pxStL at h ⊢
  dsimp only at h ⊢
  cases hL : sxNext J.1 s with
  | none => rw [hL] at h; exact absurd (h 0 hm) Bool.false_ne_true
  | some L =>
    rw [hL] at h
    dsimp only at h ⊢
    refine List.all_eq_true.mpr (fun e he => ?_)
    rw [pxEBk_eq, pxSBk_eq]
    refine hG _ _ m g hm (fun i hi => ?_)
    have q := List.all_eq_true.mp (h i hi) e he
    rw [pxEBk_eq, pxSBk_eq] at q
    exact q
theorem pxStR_cj {s' : sxS} {e : sxE1} {G : (sxE1 → sxE1 → Bool) → sxE1 → sxE1 → Bool} (hG : ∀ e e', pxCj (fun ih => G ih e e')) : pxCj (fun ih => pxStR J (G ih) e s') := by
  intro m g hm h
  unfold pxStR at h ⊢
  dsimp only at h ⊢
  cases hL : sxNext J.2.1 s' with
  | none => rw [hL] at h; exact absurd (h 0 hm) Bool.false_ne_true
  | some L =>
    rw [hL] at h
    dsimp only at h ⊢
    refine List.all_eq_true.mpr (fun e he => ?_)
    rw [pxEBk_eq, pxSBk_eq]
    refine hG _ _ m g hm (fun i hi => ?_)
    have q := List.all_eq_true.mp (h i hi) e he
    rw [pxEBk_eq, pxSBk_eq] at q
    exact q
theorem pxBoth_cj {e e' : sxE1} : pxCj (fun ih => pxBoth J me ih e e') := by
  match e, e' with
  | .inr (.inl q), .inr (.inl q') => exact pxCj_c _
  | .inr (.inl q), .inr (.inr q') => exact pxCj_c _
  | .inr (.inr q), .inr q' => exact pxCj_c _
  | .inl s, .inr e' => exact pxStL_cj (fun e e' => pxCj_id e e')
  | .inr (.inl q), .inl s' => exact pxStR_cj (fun e e' => pxCj_id e e')
  | .inr (.inr q), .inl s' => exact pxStR_cj (fun e e' => pxCj_id e e')
  | .inl s, .inl s' =>
    show pxCj (fun ih => match sxIsC J.1 s && sxIsC J.2.1 s' with
      | true => J.2.2.2.1.any (pxFitC J me s s')
      | false => match pxTry J s s' J.2.2.1 with
        | some L => L.all (fun q => ih q.1 q.2)
        | none => match sxIsC J.1 s with
          | true => pxStR J ih (.inl s) s'
          | false => pxStL J ih s (.inl s'))
    cases sxIsC J.1 s && sxIsC J.2.1 s' with
    | true => exact pxCj_c _
    | false =>
      cases pxTry J s s' J.2.2.1 with
      | some L => exact fun m g hm h => List.all_eq_true.mpr (fun q hq => List.all_eq_true.mpr (fun i hi => List.all_eq_true.mp (h i (List.mem_range.mp hi)) q hq))
      | none =>
        cases sxIsC J.1 s with
        | true => exact pxStR_cj (fun e e' => pxCj_id e e')
        | false => exact pxStL_cj (fun e e' => pxCj_id e e')
theorem pxSt1_cj {e e' : sxE1} : pxCj (fun ih => pxSt1 J me ih e e') := by
  unfold pxSt1
  cases e with
  | inr q => exact pxBoth_cj
  | inl s =>
    dsimp only
    cases pxStop J.1 J.2.2.2.2.2.1 (.inl s) with
    | false => exact pxStL_cj (fun e e' => pxCj_id e e')
    | true =>
      cases e' with
      | inr q' => exact pxBoth_cj
      | inl s' =>
        dsimp only
        cases pxStop J.2.1 J.2.2.2.2.2.2 (.inl s') with
        | false => exact pxStR_cj (fun e e' => pxCj_id e e')
        | true => exact pxBoth_cj
theorem pxStL_mo {s : sxS} {e' : sxE1} {a b : sxE1 → sxE1 → Bool} (hab : ∀ e e', a e e' = true → b e e' = true) (h : pxStL J a s e' = true) : pxStL J b s e' = true := by
  unfold pxStL at h ⊢
  split at h
  · refine List.all_eq_true.mpr (fun e he => ?_)
    have q := List.all_eq_true.mp h e he
    rw [pxEBk_eq, pxSBk_eq] at q ⊢
    exact hab _ _ q
  · cases h
theorem pxStR_mo {s' : sxS} {e : sxE1} {a b : sxE1 → sxE1 → Bool} (hab : ∀ e e', a e e' = true → b e e' = true) (h : pxStR J a e s' = true) : pxStR J b e s' = true := by
  unfold pxStR at h ⊢
  split at h
  · refine List.all_eq_true.mpr (fun e he => ?_)
    have q := List.all_eq_true.mp h e he
    rw [pxEBk_eq, pxSBk_eq] at q ⊢
    exact hab _ _ q
  · cases h
theorem pxBoth_mo {e e' : sxE1} {a b : sxE1 → sxE1 → Bool} (hab : ∀ e e', a e e' = true → b e e' = true) (h : pxBoth J me a e e' = true) : pxBoth J me b e e' = true := by
  match e, e', h with
  | .inr (.inl q), .inr (.inl q'), h => exact h
  | .inr (.inl q), .inr (.inr q'), h => cases h
  | .inr (.inr q), .inr q', h => cases h
  | .inl s, .inr e', h => exact pxStL_mo hab h
  | .inr (.inl q), .inl s', h => exact pxStR_mo hab h
  | .inr (.inr q), .inl s', h => exact pxStR_mo hab h
  | .inl s, .inl s', h =>
    have h : (match sxIsC J.1 s && sxIsC J.2.1 s' with
      | true => J.2.2.2.1.any (pxFitC J me s s')
      | false => match pxTry J s s' J.2.2.1 with
        | some L => L.all (fun q => a q.1 q.2)
        | none => match sxIsC J.1 s with
          | true => pxStR J a (.inl s) s'
          | false => pxStL J a s (.inl s')) = true := h
    show (match sxIsC J.1 s && sxIsC J.2.1 s' with
      | true => J.2.2.2.1.any (pxFitC J me s s')
      | false => match pxTry J s s' J.2.2.1 with
        | some L => L.all (fun q => b q.1 q.2)
        | none => match sxIsC J.1 s with
          | true => pxStR J b (.inl s) s'
          | false => pxStL J b s (.inl s')) = true
    split at h
    · exact h
    · split at h
      · exact List.all_eq_true.mpr (fun q hq => hab _ _ (List.all_eq_true.mp h q hq))
      · split at h
        · exact pxStR_mo hab h
        · exact pxStL_mo hab h
theorem pxSt1_mono {e e' : sxE1} {a b : sxE1 → sxE1 → Bool} (hab : ∀ e e', a e e' = true → b e e' = true) (h : pxSt1 J me a e e' = true) : pxSt1 J me b e e' = true := by
  unfold pxSt1 at h ⊢
  cases e with
  | inr q => exact pxBoth_mo hab h
  | inl s =>
    dsimp only at h ⊢
    split at h
    · exact pxStL_mo hab h
    · cases e' with
      | inr q' => exact pxBoth_mo hab h
      | inl s' =>
        dsimp only at h ⊢
        split at h
        · exact pxStR_mo hab h
        · exact pxBoth_mo hab h
theorem pxIh_cj {n : Nat} {e e' : sxE1} : pxCj (fun ih => pxIh n ih e e') := by
  unfold pxIh
  simp only [pxEBk_eq]
  cases Nat.ble (n + 3) (pxEB e).1 with
  | false => exact pxCj_id _ _
  | true =>
    dsimp only
    cases sxDd (pxEB e).2.2.1 with
    | nil => exact pxCj_id _ _
    | cons q r =>
      simp only [pxSBk_eq]
      exact pxCj_id _ _
theorem pxIh_mo {n : Nat} {a b : sxE1 → sxE1 → Bool} (hab : ∀ e e', a e e' = true → b e e' = true) : ∀ e e', pxIh n a e e' = true → pxIh n b e e' = true := by
  intro e e' h
  unfold pxIh at h ⊢
  rw [pxEBk_eq] at h ⊢
  split at h
  · exact hab _ _ h
  · split at h
    · exact hab _ _ h
    · rw [pxSBk_eq, pxSBk_eq] at h ⊢
      exact hab _ _ h
theorem pxGoK_mono {a b : sxE1 → sxE1 → Bool} (hab : ∀ e e', a e e' = true → b e e' = true) : ∀ (k : Nat) (e e' : sxE1), pxGoK J me k a e e' = true → pxGoK J me k b e e' = true
  | 0, e, e', h => hab e e' h
  | k + 1, e, e', h => by
    have h : (bFc (pxN e) fun z => pxSt1 J me (pxIh z (pxGoK J me k a)) e e') = true := h
    show (bFc (pxN e) fun z => pxSt1 J me (pxIh z (pxGoK J me k b)) e e') = true
    rw [bFc_eq] at h ⊢
    exact pxSt1_mono (pxIh_mo (fun e e' h => pxGoK_mono hab k e e' h)) h
theorem pxCj_K : ∀ (k : Nat) (e e' : sxE1), pxCj (fun f => pxGoK J me k f e e')
  | 0, e, e' => pxCj_id e e'
  | k + 1, e, e' => fun m g hm h => by
    have h0 : ∀ i, i < m → pxSt1 J me (pxIh (pxN e) (pxGoK J me k (g i))) e e' = true := fun i hi => by
      have q : (bFc (pxN e) fun z => pxSt1 J me (pxIh z (pxGoK J me k (g i))) e e') = true := h i hi
      rw [bFc_eq] at q
      exact q
    have h1 := pxSt1_cj (J := J) (me := me) (e := e) (e' := e') m (fun i => pxIh (pxN e) (pxGoK J me k (g i))) hm h0
    show (bFc (pxN e) fun z => pxSt1 J me (pxIh z (pxGoK J me k (fun e e' => (List.range m).all (fun i => g i e e')))) e e') = true
    rw [bFc_eq]
    refine pxSt1_mono (fun e2 e2' hh => ?_) h1
    have h2 := pxIh_cj (n := pxN e) (e := e2) (e' := e2') m (fun i => pxGoK J me k (g i)) hm (fun i hi => List.all_eq_true.mp hh i (List.mem_range.mpr hi))
    exact pxIh_mo (fun e3 e3' h3 => pxCj_K k e3 e3' m g hm (fun i hi => List.all_eq_true.mp h3 i (List.mem_range.mpr hi))) _ _ h2
end PX8

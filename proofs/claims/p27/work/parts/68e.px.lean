/-! PX: the use of a contract of two -/
noncomputable section PX5
def pxBhR (c : pxCt) (θ : List sxN) (B : sxB) (O : sxO) (G : sxG) (O' : sxO) (G' : sxG) (f f' : List sxV → sxB → sxO → sxG → sxE1) (l_ : List pxPt) : Option (List (sxE1 × sxE1)) := @List.rec _ (fun _ => Option (List (sxE1 × sxE1))) (some []) (fun p _ ih => match pxBh c.2.2.1.1.1 c.2.2.2.1.1 c.2.2.2.1.2 θ B O G O' G' p.1 p.2 with
    | none => none
    | some l => match ih with
      | none => none
      | some L => some (l.map (fun q => (f q.1.1 q.2.1 q.2.2.1.1 q.2.2.1.2, f' q.1.2 q.2.1 q.2.2.2.1 q.2.2.2.2)) ++ L)) l_
theorem pxBhR_c {c : pxCt} {θ : List sxN} {B : sxB} {O : sxO} {G : sxG} {O' : sxO} {G' : sxG} {f f' : List sxV → sxB → sxO → sxG → sxE1} {p : pxPt} {ps : List pxPt} : pxBhR c θ B O G O' G' f f' (p :: ps) = (match pxBh c.2.2.1.1.1 c.2.2.2.1.1 c.2.2.2.1.2 θ B O G O' G' p.1 p.2 with
    | none => none
    | some l => match pxBhR c θ B O G O' G' f f' ps with
      | none => none
      | some L => some (l.map (fun q => (f q.1.1 q.2.1 q.2.2.1.1 q.2.2.1.2, f' q.1.2 q.2.1 q.2.2.2.1 q.2.2.2.2)) ++ L)) := rfl
theorem pxBhR_mem {c : pxCt} {θ : List sxN} {B : sxB} {O O' : sxO} {G G' : sxG} {f f' : List sxV → sxB → sxO → sxG → sxE1} {p : pxPt} : ∀ {ps : List pxPt} {L : List (sxE1 × sxE1)}, pxBhR c θ B O G O' G' f f' ps = some L → p ∈ ps →
    ∃ l, pxBh c.2.2.1.1.1 c.2.2.2.1.1 c.2.2.2.1.2 θ B O G O' G' p.1 p.2 = some l ∧ ∀ q ∈ l, (f q.1.1 q.2.1 q.2.2.1.1 q.2.2.1.2, f' q.1.2 q.2.1 q.2.2.2.1 q.2.2.2.2) ∈ L
  | [], _, _, hp => by cases hp
  | p0 :: ps, L, h, hp => by
    rw [pxBhR_c] at h
    split at h
    · cases h
    · rename_i l hl
      split at h
      · cases h
      · rename_i L2 hL2
        cases h
        rcases List.mem_cons.mp hp with rfl | hp
        · exact ⟨l, hl, fun q hq => List.mem_append_left _ (List.mem_map.mpr ⟨q, hq, rfl⟩)⟩
        · obtain ⟨l2, a, b⟩ := pxBhR_mem hL2 hp
          exact ⟨l2, a, fun q hq => List.mem_append_right _ (b q hq)⟩
/-- what patterns name, on both sides, and what tables give at their places -/
def pxMat (K K' : sxKx) (r : Nat) (q : pxPt) (ls : sxL) (st : List sxV) (O : sxO) (G : sxG) (ls' : sxL) (st' : List sxV) (O' : sxO) (G' : sxG) (B : sxB) : Option (sxB × sxO × sxO) := match sxMatz K G (sxKeys q.1.2.2.2.2.2.1) B O with
  | none => none
  | some (B1, O1) => match sxMatz K' G' (sxKeys q.2.2.2.2.2.2.1) B1 O' with
    | none => none
    | some (B2, O2) => match q.1.2.2.2.2.2.2.2 with
      | [] => some (B2, O1, O2)
      | f :: fs => some (sxMatF (f :: fs) (pxBnd r q ls st O1 ls' st' O2 B2) B2, O1, O2)
theorem pxMat_ok {X X' : sxCx} {gh : sxGh} {scr scr' : Option (List Int32)} {v0 v0' : Nat → Nat → Option Value} {σ : List Int} {B B' B2 : sxB} {O O' O1 O2 : sxO} {G G' : sxG} {H H' : mjH} {r : Nat} {q : pxPt} {ls ls' : sxL} {st st' : List sxV} (h : pxMat X.1 X'.1 r q ls st O G ls' st' O' G' B = some (B2, O1, O2)) (hH : sxHS X gh scr v0 σ B O G H) (hH' : sxHS X' gh scr' v0' σ B' O' G' H') :
    ∃ σ2, sxUp σ σ2 ∧ sxHS X gh scr v0 σ2 B2 O1 G H ∧ sxHS X' gh scr' v0' σ2 B2 O2 G' H' := by
  unfold pxMat at h
  split at h
  · cases h
  · rename_i B3 O3 hm
    split at h
    · cases h
    · rename_i B4 O4 hm'
      obtain ⟨σ1, u1, hH1⟩ := sxMatz_ok hm hH
      obtain ⟨σ2, u2, hH2'⟩ := sxMatz_ok hm' (hH'.up u1 hH1.1)
      have hH2 := hH1.up u2 hH2'.1
      split at h
      · cases h
        exact ⟨σ2, u1.tr u2, hH2, hH2'⟩
      · cases h
        obtain ⟨σ3, u3, h3⟩ := sxMatF_ok hH2.1
        exact ⟨σ3, (u1.tr u2).tr u3, hH2.up u3 h3, hH2'.up u3 h3⟩
def pxApp (X X' : sxCx) (c : pxCt) (w : pxWf) (s s' : sxS) : Option (List (sxE1 × sxE1)) := match s, s' with
  | ((k1, pc1, ls1, rest1) :: F, k, 0, ls, [], B, O, G, C, S), ((k1', pc1', ls1', rest1') :: F', k', 0, ls', [], _, O', G', C', S') => (match Nat.beq k c.1.1 && Nat.beq k' c.1.2 with
    | false => none
    | true => match sxMsb c.2.2.2.1.1 X.2.1 && sxMsb c.2.2.2.1.2 X'.2.1 with
        | false => none
        | true => match sxQk2 c.2.2.1.1.2.1 c.2.2.1.1 ls O B (fun _ => sxQk2 c.2.2.1.1.2.1 c.2.2.1.2 ls' O' B (fun _ => pxMat X.1 X'.1 1 c.2.2.1 ls [] O G ls' [] O' G' B)) with
            | none => none
            | some (B2, O1, O2) => sxThk (pxMtc 1 c.2.2.1 ls [] O1 ls' [] O2 B2) fun θ => match pxInc 1 θ c.2.2.1 ls [] O1 G ls' [] O2 G' B2 with
              | false => none
              | true => match pxDn w B2 θ (F.length + 1 + c.2.1.1) X.2.2.1 (F'.length + 1 + c.2.1.2) X'.2.2.1 with
              | false => none
              | true => pxBhR c θ B2 O1 G O2 G' (fun vs B O G => .inl (F, k1, pc1 + 3, ls1, vs ++ rest1, B, O, G, C + c.2.2.2.2.1.1.1, S + c.2.2.2.2.1.1.2)) (fun vs B O G => .inl (F', k1', pc1' + 3, ls1', vs ++ rest1', B, O, G, C' + c.2.2.2.2.1.2.1, S' + c.2.2.2.2.1.2.2)) c.2.2.2.2.2)
  | _, _ => none
variable {X X' : sxCx} {gh : sxGh} {scr scr' : Option (List Int32)} {v0 v0' : Nat → Nat → Option Value} {d0 d0' : Nat} {σ τ : List Int} {s s' : sxS} {m m' : pxM} {Y : mjO → mjO → Prop} {L : List (sxE1 × sxE1)} {c : pxCt} {w : pxWf} {τ0 : List Int}
theorem pxApp_ok (hX : X'.1 = X.1) (hV : pxCtW X.1 gh c (pxOk w c τ0)) (hw : pxWk w X.2.2.1 X'.2.2.1 τ0 d0 d0') (hu0 : sxUp τ0 σ) (h : pxApp X X' c w s s' = some L) (hd0 : X.2.2.1 ≤ d0) (hd0' : X'.2.2.1 ≤ d0') (hR : pxSR X gh scr v0 d0 σ (.inl s) m) (hR' : pxSR X' gh scr' v0' d0' σ (.inl s') m')
    (hL : ∀ q ∈ L, ∀ (σ2 : List Int) (m2 m2' : pxM), sxUp σ σ2 → pxSR X gh scr v0 d0 σ2 q.1 m2 → pxSR X' gh scr' v0' d0' σ2 q.2 m2' → pxW scr scr' Y m2 m2') : pxW scr scr' Y m m' := by
  obtain ⟨K', M', nd', sl'⟩ := X'
  dsimp only at hX
  subst hX
  match m, m', hR, hR' with
  | .inl (cF, d, k0, p0, cl, cs, H, C, S), .inl (cF', d', k0', p0', cl', cs', H', C', S'), hR, hR' =>
    unfold pxApp at h
    split at h
    · rename_i k1 pc1 ls1 rest1 F k ls B O G C9 S9 k1' pc1' ls1' rest1' F' k' ls' B' O' G' C9' S9' _ _
      split at h
      · cases h
      · rename_i hk
        rw [Bool.and_eq_true] at hk
        have hkL := Nat.eq_of_beq_eq_true hk.1
        have hkR := Nat.eq_of_beq_eq_true hk.2
        skip
        · skip
          split at h
          · cases h
          · rename_i hms
            rw [Bool.and_eq_true] at hms
            split at h
            · cases h
            · rename_i B2 O1 O2 hmt
              skip
              · skip
                simp only [sxThk_eq] at h
                split at h
                · cases h
                · rename_i hinc
                  split at h
                  · cases h
                  rename_i hdn0
                  obtain ⟨⟨r1, r2⟩, ⟨hF, hdd⟩, hl, hs, hH, hC, hS⟩ := hR
                  obtain ⟨⟨r1', r2'⟩, ⟨hF', hdd'⟩, hl', hs', hH', hC', hS'⟩ := hR'
                  dsimp only at r1 r2 hF hdd hl hs hH hC hS r1' r2' hF' hdd' hl' hs' hH' hC' hS' hdn0 hms hmt hd0 hd0' hw ⊢
                  subst r1 r2 r1' r2'
                  cases sxSR_n hs
                  cases sxSR_n hs'
                  cases cF with
                  | nil => exact hF.elim
                  | cons cq cF =>
                    cases cF' with
                    | nil => exact hF'.elim
                    | cons cq' cF' =>
                      obtain ⟨d1, k2, pc2, n2, lc, rc⟩ := cq
                      obtain ⟨d1', k2', pc2', n2', lc', rc'⟩ := cq'
                      obtain ⟨⟨e1, e2, e3, e4⟩, ⟨e5, e6⟩, e7⟩ := hF
                      obtain ⟨⟨f1, f2, f3, f4⟩, ⟨f5, f6⟩, f7⟩ := hF'
                      dsimp only at e1 e2 e3 e4 e5 e6 f1 f2 f3 f4 f5 f6
                      subst e1 e2 e3 e4 f1 f2 f3 f4
                      obtain ⟨σ2, u12, hH2, hH2'⟩ := pxMat_ok (X' := (X.1, M', nd', sl')) (sxQk2_some (sxQk2_some hmt)) hH hH'
                      obtain ⟨hpt, hpt', hrig⟩ := pxInc_ok hH2.1 (hl.up u12) (show sxSR σ2 [] [] from trivial) hH2.2.2.1 hH2.2.2.2.1 (hl'.up u12) (show sxSR σ2 [] [] from trivial) hH2'.2.2.1 hH2'.2.2.2.1 (Nat.lt_succ_self 0) hinc
                      have hθl : (pxMtc 1 c.2.2.1 ls [] O1 ls' [] O2 B2).length = c.2.2.1.1.1 := by
                        have := hpt.1.1
                        unfold sxSb at this
                        rw [List.length_map] at this
                        exact this
                      have hθs : ∀ m ∈ pxMtc 1 c.2.2.1 ls [] O1 ls' [] O2 B2, m.1 < σ2.length := by
                        unfold pxInc at hinc
                        split at hinc
                        · rename_i hi2
                          unfold sxIncl at hi2
                          split at hi2
                          · split at hi2
                            · rename_i q2
                              intro m hm
                              have := List.all_eq_true.mp q2 m hm
                              rw [hH2.1.1.1]
                              exact bltOk this
                            · cases hi2
                          · cases hi2
                        · cases hinc
                      generalize pxMtc 1 c.2.2.1 ls [] O1 ls' [] O2 B2 = θ at hinc h hpt hpt' hrig hθl hθs hdn0
                      have hth : sxTh σ2 θ (sxSb σ2 θ) := fun i m hm => ⟨_, sxEv_nr (hθs m (by rw [aNth_eq] at hm; exact List.mem_of_getElem? hm)), sxSb_get hm⟩
                      have hok : pxOk w c τ0 d d' (sxSb σ2 θ) := pxDn_ok hH2.1 (hu0.tr u12) hw hd0 hd0' (by simp only [List.length_cons] at hdd; exact hdd) (by simp only [List.length_cons] at hdd'; exact hdd') hdn0
                      have hrun := hV scr scr' (fun a b => mjFin (fun x => mjFin (Y x) scr' ((d' + 1, k1', pc1', X.1.2.1, lc', rc') :: cF') C' S' b) scr ((d + 1, k1, pc1, X.1.2.1, lc, rc) :: cF) C S a) d d' (sxSb σ2 θ) cl cl' H H' hok hH2.2.1 hH2'.2.1 hpt hpt' ?_
                      · rw [← hkL, ← hkR] at hrun
                        obtain ⟨f, o, o1, f', o', o2, o3⟩ := hrun
                        refine ⟨f, o, o1, ?_⟩
                        have o4 : mjFin (fun x => mjFin (Y x) scr' ((d' + 1, k1', pc1', X.1.2.1, lc', rc') :: cF') C' S' (o'.1, o'.2.1, 0 + o'.2.2.1, 0 + o'.2.2.2)) scr ((d + 1, k1, pc1, X.1.2.1, lc, rc) :: cF) C S (o.1, o.2.1, 0 + o.2.2.1, 0 + o.2.2.2) := o3
                        rw [Nat.zero_add, Nat.zero_add, Nat.zero_add, Nat.zero_add] at o4
                        exact mjFin_mo (fun x hx => ⟨f', o', o2, hx⟩) o4
                      · intro q hq a b τ' hu' ha hb
                        obtain ⟨cv, Ha, C1, S1, rfl, a1, a2, a3, a4, a5⟩ := ha
                        obtain ⟨cv', Hb, C1', S1', rfl, b1, b2, b3, b4, b5⟩ := hb
                        obtain ⟨l, hl1, hl2⟩ := pxBhR_mem h hq
                        obtain ⟨w, hw, σ3, g1, g2, ⟨g3, g4, g5⟩, g6, g7, g8⟩ := pxBh_ok (n := X.1.2.1) hH2.1 hH2.2.2.1 hH2.2.2.2.1 hH2'.2.2.1 hH2'.2.2.2.1 hth hθl hu' a2 b2 a3 b3 hl1
                        have u3 := u12.tr g1
                        have key := hL _ (hl2 w hw) σ3 (.inl (cF, d + 1, k1, pc1 + 3, lc, cv.toList ++ rc, Ha, C + C1, S + S1)) (.inl (cF', d' + 1, k1', pc1' + 3, lc', cv'.toList ++ rc', Hb, C' + C1', S' + S1')) u3
                          ⟨⟨rfl, rfl⟩, ⟨e7.up u3, by simp only [List.length_cons] at hdd; show d + 1 + F.length = d0; omega⟩, e5.up u3, sxSR_app g3 (sxSR.up u3 e6), ⟨g2, a1, g4, g5, hH2.2.2.2.2.1.tr (a3.sub hms.1), hH2.2.2.2.2.2.up g1⟩, Nat.add_le_add hC a4, Nat.add_le_add hS a5⟩
                          ⟨⟨rfl, rfl⟩, ⟨f7.up u3, by simp only [List.length_cons] at hdd'; show d' + 1 + F'.length = d0'; omega⟩, f5.up u3, sxSR_app g6 (sxSR.up u3 f6), ⟨g2, b1, g7, g8, hH2'.2.2.2.2.1.tr (b3.sub hms.2), hH2'.2.2.2.2.2.up g1⟩, Nat.add_le_add hC' b4, Nat.add_le_add hS' b5⟩
                        refine mjFin.retC (by rw [a1.1]; exact Nat.le_refl _) ?_
                        exact mjRn_mo (fun x hx => mjFin.retC (by rw [b1.1]; exact Nat.le_refl _) hx) key
    · cases h
  | .inl _, .inr _, _, hR' => exact hR'.elim
  | .inr _, _, hR, _ => exact hR.elim
end PX5

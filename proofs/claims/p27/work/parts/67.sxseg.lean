/-! SX: a stretch from a pattern to ends and cuts; loops inside, ways out -/
noncomputable section SXSEG
variable {X : sxCx} {K : sxKx} {gh : sxGh} {scr : Option (List Int32)} {v0 : Nat → Nat → Option Value} {d : Nat} {Z : mjO → Prop} {τ τ0 : List Int} {C S C0 S0 n pc : Nat} {cl : mjL} {cs : List Value} {H : mjH} {J : sxJb} {p : sxPt}
theorem sxSt_relX {k : Nat} (hH : sxHR X.1 H) (hp : sxPtR (gT gh) X.1.2.1 (sxVw gh scr X.1.2.1 H) τ p cl cs) (hkp : sxKp X.2.1 v0 (sxVw gh scr X.1.2.1 H)) (hsl : sxSl τ X.2.2.2 scr) (hC : C ≤ C0) (hS : S ≤ S0) : sxRel X gh scr v0 d τ (sxSt k pc p C0 S0) [] d cl cs H C S := by
  obtain ⟨h1, h2, h3, h4, h5, h6, h7, h8⟩ := hp
  exact ⟨⟨trivial, rfl⟩, h4, h5, ⟨⟨h1, h2, h3, (fun q hq => by cases hq), h8⟩, hH, h6, h7, hkp, hsl⟩, hC, hS⟩
theorem sxSegX {me : Option sxMe} (n : Nat) (h : sxGo1 J me n (sxSt J.2.2.1 pc p C0 S0) = true) (hGd : sxGd J.1.1 gh) (hK : J.1.1.2.1 < mjScr) (hr : 0 < J.2.2.2.2.1) (hV : ∀ c ∈ J.2.1, sxCtV J.1.1 gh c) (hd : J.1.2.2.1 ≤ d) (hu0 : sxUp τ0 τ) (hτ0 : τ0.length = J.2.2.2.2.1) (hmi : ∀ b, me = some b → sxMin b τ.length) (hsl : sxSl τ J.1.2.2.2 scr)
    (hpt : sxPtR (gT gh) J.1.1.2.1 (sxVw gh scr J.1.1.2.1 H) τ p cl cs) (hH : sxHR J.1.1 H) (hkp : sxKp J.1.2.1 v0 (sxVw gh scr J.1.1.2.1 H)) (hC0 : C ≤ C0) (hS0 : S ≤ S0)
    (hC : ∀ u ∈ J.2.2.2.1, ∀ (τ' : List Int) (cl : mjL) (cs : List Value) (H : mjH) (C S : Nat), sxUp τ0 τ' → sxPtR (gT gh) J.1.1.2.1 (sxVw gh scr J.1.1.2.1 H) τ' u.2.1 cl cs → sxHR J.1.1 H → sxKp J.1.2.1 v0 (sxVw gh scr J.1.1.2.1 H) → C ≤ u.2.2.2.1 → S ≤ u.2.2.2.2 → (∀ b, me = some b → sxLt3 (sxMvs τ' u.2.2.1) (sxMvs τ b)) → mjRn Z scr [] d J.2.2.1 u.1 cl cs H C S)
    (hP : ∀ p ∈ J.2.2.2.2.2.1, ∀ (cv : Option Value) (τ' : List Int) (H : mjH) (C S : Nat), sxUp τ0 τ' → sxPtR (gT gh) J.1.1.2.1 (sxVw gh scr J.1.1.2.1 H) τ' p [] cv.toList → sxHR J.1.1 H → sxKp J.1.2.1 v0 (sxVw gh scr J.1.1.2.1 H) → C ≤ J.2.2.2.2.2.2.2.1.1 → S ≤ J.2.2.2.2.2.2.2.1.2 → Z (.inl cv, H, C, S))
    (hT : ∀ q ∈ J.2.2.2.2.2.2.1, ∀ (τ' : List Int) (H : mjH) (C S : Nat), sxUp τ0 τ' → sxPtR (gT gh) J.1.1.2.1 (sxVw gh scr J.1.1.2.1 H) τ' q.2 [] [] → sxHR J.1.1 H → sxKp J.1.2.1 v0 (sxVw gh scr J.1.1.2.1 H) → C ≤ J.2.2.2.2.2.2.2.1.1 → S ≤ J.2.2.2.2.2.2.2.1.2 → Z (.inr q.1, H, C, S)) :
    mjRn Z scr [] d J.2.2.1 pc cl cs H C S := by
  unfold sxGo1 at h
  split at h
  · rename_i L hL
    refine sxNext_ok (J := J) (s := sxSt J.2.2.1 pc p C0 S0) (v0 := v0) (d0 := d) hGd hK hd hV hL (sxUp.rf : sxUp τ τ) (sxSt_relX hH hpt hkp hsl hC0 hS0) (fun e he => ?_)
    exact sxGo_ok (J := J) (me := me) hGd hK hd hV hu0 hτ0 hr hmi hC hP hT n e (sxAll_mp h e he)
  · cases h
/-- loops inside, and ways out of the job -/
theorem sxRunX {cuts exits : List sxCu} (n : Nat) (hcu : J.2.2.2.1 = cuts ++ exits) (hall : cuts.all (sxCuB J n) = true) (h : sxGo1 J none n (sxSt J.2.2.1 pc p C0 S0) = true) (hGd : sxGd J.1.1 gh) (hK : J.1.1.2.1 < mjScr) (hr : 0 < J.2.2.2.2.1) (hV : ∀ c ∈ J.2.1, sxCtV J.1.1 gh c) (hd : J.1.2.2.1 ≤ d) (hu0 : sxUp τ0 τ) (hτ0 : τ0.length = J.2.2.2.2.1) (hsl : ∀ τ', sxUp τ0 τ' → sxSl τ' J.1.2.2.2 scr)
    (hpt : sxPtR (gT gh) J.1.1.2.1 (sxVw gh scr J.1.1.2.1 H) τ p cl cs) (hH : sxHR J.1.1 H) (hkp : sxKp J.1.2.1 v0 (sxVw gh scr J.1.1.2.1 H)) (hC0 : C ≤ C0) (hS0 : S ≤ S0)
    (hE : ∀ u ∈ exits, ∀ (τ' : List Int) (cl : mjL) (cs : List Value) (H : mjH) (C S : Nat), sxUp τ0 τ' → sxPtR (gT gh) J.1.1.2.1 (sxVw gh scr J.1.1.2.1 H) τ' u.2.1 cl cs → sxHR J.1.1 H → sxKp J.1.2.1 v0 (sxVw gh scr J.1.1.2.1 H) → C ≤ u.2.2.2.1 → S ≤ u.2.2.2.2 → mjRn Z scr [] d J.2.2.1 u.1 cl cs H C S)
    (hP : ∀ p ∈ J.2.2.2.2.2.1, ∀ (cv : Option Value) (τ' : List Int) (H : mjH) (C S : Nat), sxUp τ0 τ' → sxPtR (gT gh) J.1.1.2.1 (sxVw gh scr J.1.1.2.1 H) τ' p [] cv.toList → sxHR J.1.1 H → sxKp J.1.2.1 v0 (sxVw gh scr J.1.1.2.1 H) → C ≤ J.2.2.2.2.2.2.2.1.1 → S ≤ J.2.2.2.2.2.2.2.1.2 → Z (.inl cv, H, C, S))
    (hT : ∀ q ∈ J.2.2.2.2.2.2.1, ∀ (τ' : List Int) (H : mjH) (C S : Nat), sxUp τ0 τ' → sxPtR (gT gh) J.1.1.2.1 (sxVw gh scr J.1.1.2.1 H) τ' q.2 [] [] → sxHR J.1.1 H → sxKp J.1.2.1 v0 (sxVw gh scr J.1.1.2.1 H) → C ≤ J.2.2.2.2.2.2.2.1.1 → S ≤ J.2.2.2.2.2.2.2.1.2 → Z (.inr q.1, H, C, S)) :
    mjRn Z scr [] d J.2.2.1 pc cl cs H C S := by
  have pos : ∀ u ∈ cuts, ∀ {τ' : List Int} {cl : mjL} {cs : List Value} {H' : mjH}, sxPtR (gT gh) J.1.1.2.1 (sxVw gh scr J.1.1.2.1 H') τ' u.2.1 cl cs → ((u.2.2.1.1.1 < τ'.length ∧ u.2.2.1.1.2.1 < τ'.length) ∧ 0 ≤ sxMv τ' u.2.2.1.1) ∧ ((u.2.2.1.2.1.1 < τ'.length ∧ u.2.2.1.2.1.2.1 < τ'.length) ∧ 0 ≤ sxMv τ' u.2.2.1.2.1) ∧ (u.2.2.1.2.2.1 < τ'.length ∧ u.2.2.1.2.2.2.1 < τ'.length) ∧ 0 ≤ sxMv τ' u.2.2.1.2.2 := by
    intro u hu τ' cl cs H' hp
    have hb := List.all_eq_true.mp hall u hu
    unfold sxCuB at hb
    split at hb
    · rename_i hpos
      unfold sxPos3 at hpos
      split at hpos
      · rename_i p1
        split at hpos
        · rename_i p2
          exact ⟨sxPos_ok p1 hp, sxPos_ok p2 hp, sxPos_ok hpos hp⟩
        · cases hpos
      · cases hpos
    · cases hb
  have hcut : ∀ x : Int × Int × Int, (0 ≤ x.1 ∧ 0 ≤ x.2.1 ∧ 0 ≤ x.2.2) → ∀ u ∈ cuts, ∀ (τ' : List Int) (cl : mjL) (cs : List Value) (H' : mjH) (C S : Nat), sxUp τ0 τ' → sxPtR (gT gh) J.1.1.2.1 (sxVw gh scr J.1.1.2.1 H') τ' u.2.1 cl cs → sxHR J.1.1 H' → sxKp J.1.2.1 v0 (sxVw gh scr J.1.1.2.1 H') → C ≤ u.2.2.2.1 → S ≤ u.2.2.2.2 → sxMvs τ' u.2.2.1 = x → mjRn Z scr [] d J.2.2.1 u.1 cl cs H' C S := by
    refine sxLex (fun x hx ih u hu τ' cl cs H' C S hup hpt hH' hkp hC hS hm => ?_)
    have hb := List.all_eq_true.mp hall u hu
    have hp3 := pos u hu hpt
    unfold sxCuB at hb
    split at hb
    · refine sxSegX (J := J) (me := some u.2.2.1) n hb hGd hK hr hV hd hup hτ0 (fun b hb => ?_) (hsl τ' hup) hpt hH' hkp hC hS (fun u' hu' τ2 cl2 cs2 H2 C2 S2 g1 g2 g3 g4 g5 g6 g7 => ?_) hP hT
      · cases hb
        exact ⟨hp3.1.1, hp3.2.1.1, hp3.2.2.1⟩
      · rw [hcu] at hu'
        rcases List.mem_append.mp hu' with hu' | hu'
        · have hp4 := pos u' hu' g2
          refine ih (sxMvs τ2 u'.2.2.1) ⟨hp4.1.2, hp4.2.1.2, hp4.2.2.2⟩ ?_ u' hu' τ2 cl2 cs2 H2 C2 S2 g1 g2 g3 g4 g5 g6 rfl
          rw [← hm]
          exact g7 _ rfl
        · exact hE u' hu' τ2 cl2 cs2 H2 C2 S2 g1 g2 g3 g4 g5 g6
    · cases hb
  refine sxSegX (J := J) (me := none) n h hGd hK hr hV hd hu0 hτ0 (fun b hb => by cases hb) (hsl τ hu0) hpt hH hkp hC0 hS0 (fun u' hu' τ2 cl2 cs2 H2 C2 S2 g1 g2 g3 g4 g5 g6 g7 => ?_) hP hT
  rw [hcu] at hu'
  rcases List.mem_append.mp hu' with hu' | hu'
  · have hp4 := pos u' hu' g2
    exact hcut (sxMvs τ2 u'.2.2.1) ⟨hp4.1.2, hp4.2.1.2, hp4.2.2.2⟩ u' hu' τ2 cl2 cs2 H2 C2 S2 g1 g2 g3 g4 g5 g6 rfl
  · exact hE u' hu' τ2 cl2 cs2 H2 C2 S2 g1 g2 g3 g4 g5 g6
theorem mjRn_in {k : Nat} {c s : Nat} (h : mjRn (fun o => Z (o.1, o.2.1, c + o.2.2.1, s + o.2.2.2)) scr [] d k pc cl cs H C S) : mjRn Z scr [] d k pc cl cs H (c + C) (s + S) := by
  obtain ⟨f, o, h1, h2⟩ := h
  refine ⟨f, o, h1, ?_⟩
  show Z (o.1, o.2.1, c + C + o.2.2.1, s + S + o.2.2.2)
  rw [Nat.add_assoc, Nat.add_assoc]
  exact h2
theorem mjRn_out {k : Nat} {c s : Nat} (h : mjRn Z scr [] d k pc cl cs H (c + C) (s + S)) : mjRn (fun o => Z (o.1, o.2.1, c + o.2.2.1, s + o.2.2.2)) scr [] d k pc cl cs H C S := by
  obtain ⟨f, o, h1, h2⟩ := h
  refine ⟨f, o, h1, ?_⟩
  show Z (o.1, o.2.1, c + (C + o.2.2.1), s + (S + o.2.2.2))
  rw [← Nat.add_assoc, ← Nat.add_assoc]
  exact h2
end SXSEG

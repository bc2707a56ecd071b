/-! pairs of queries: the right one, with numbers that its ends say -/
noncomputable section QP2
variable {T : Nat} {V : rdVt} {scr scr' : Option (List Int32)} {H H' : mjH} {d d' : Nat} {cl cl' : mjL} {τ τ' : List Int} {c : pxCt} {kd : Bool}
def qHas (O : sxO) (e : Nat × Nat × Int) : Bool := O.any (fun q => Nat.beq q.1 e.1 && ((match q.2.1.1 with | 0 => iEq q.2.1.2 (Int.ofNat e.2.1) | _ + 1 => false) && (match q.2.2 with | .inr (false, m) => sxSame m (0, e.2.2) | _ => false)))
theorem qHas_ok {O : sxO} {σ σ' : List Int} {e : Nat × Nat × Int} {vw : Nat → Nat → Option Value} (h0 : σ[0]? = some 0) (h0' : σ'[0]? = some 0) (hO : sxOR vw σ O) (h : qHas O e = true) : ∃ z v, sxNR σ' (0, Int.ofNat e.2.1) z ∧ 0 ≤ z ∧ vw e.1 z.toNat = some v ∧ sxVR σ' (.inr (false, (0, e.2.2))) v := by
  obtain ⟨q, h1, h2⟩ := List.any_eq_true.mp h
  rw [Bool.and_eq_true, Bool.and_eq_true] at h2
  obtain ⟨h2, h3, h4⟩ := h2
  obtain ⟨z, v, z1, z2, z3, z4⟩ := hO q h1
  rw [Nat.eq_of_beq_eq_true h2] at z3
  split at h3
  · rename_i e0
    obtain ⟨y, y1, y2⟩ := z1
    rw [e0, h0] at y1
    cases Option.some.inj y1
    have h5 := iEq_ok h3
    refine ⟨z, v, ⟨0, h0', by rw [← h5]; exact y2⟩, z2, z3, ?_⟩
    split at h4
    · rename_i m hm
      rw [hm, sxSame_ok h4] at z4
      obtain ⟨x, rfl, u, u1, u2⟩ := z4
      dsimp only at u1 u2
      rw [h0] at u1
      cases Option.some.inj u1
      exact ⟨x, rfl, 0, h0', u2⟩
    · cases h4
  · cases h3
def qRx (c : pxCt) (ex : List (Nat × Nat × Int)) : Bool := c.2.2.2.2.2.all (fun p => ex.all (fun e => qHas p.2.2.2.2.2.2.1 e))
def qCtR2 (kd : Bool) (t : qTie) (c : pxCt) (ex : List (Nat × Nat × Int)) : sxCt := (c.1.2, c.2.1.2, (c.2.2.1.2.1, [], [], c.2.2.1.2.2.2.2.1, [], c.2.2.1.2.2.2.2.2.2.1 ++ (qTo t ++ (qE1 kd c ++ qE8)), [], []), c.2.2.2.1.2,
  [(c.2.2.1.1.1, [], [], [], [.inr (kd, (qA c, 0))], ex.map (fun e => (e.1, (0, Int.ofNat e.2.1), .inr (false, (0, e.2.2)))), [], [])], [], c.2.2.2.2.1.2.1, c.2.2.2.2.1.2.2)
theorem qRightC2 {t : qTie} {ex : List (Nat × Nat × Int)} (hex : qRx c ex = true) (hc : pxCtV sxKw (ghL T V) c) (hchk : qChk kd t c = true) (hk : t.all (fun q => Nat.blt q.2 10) = true) (hOk : qOk kd t c T V) : sxCtV sxKw (ghL T V) (qCtR2 kd t c ex) := by
  intro scr Z d τ cl H hd hH hpre hpost _
  have hpre : sxPtR T 579 (sxVw (ghL T V) scr 579 H) τ (qCtR2 kd t c ex).2.2.1 cl [] := hpre
  obtain ⟨p1, p2, p3, p4, p5, p6, p7, p8⟩ := hpre
  have hRt : sxOR (sxVw (ghL T V) scr 579 H) τ (qTo t) := fun x hx => p6 x (List.mem_append_right _ (List.mem_append_left _ hx))
  have hchk2 := hchk
  unfold qChk at hchk2
  simp only [Bool.and_eq_true] at hchk2
  obtain ⟨⟨hrt, hav⟩, hav', -⟩ := hchk2
  have hl : τ.length = c.2.2.1.1.1 := by
    unfold qRt at hrt
    simp only [Bool.and_eq_true] at hrt
    exact p1.1.trans (Nat.eq_of_beq_eq_true hrt.1.1)
  have hR : sxPtR T 579 (sxVw (ghL T V) scr 579 H) τ c.2.2.1.2 cl [] := by
    have hO' : sxOR (sxVw (ghL T V) scr 579 H) τ c.2.2.1.2.2.2.2.2.2.1 := fun x hx => p6 x (List.mem_append_left _ hx)
    have hls : sxLR 579 τ c.2.2.1.2.2.2.2.1 cl := p4
    have hn : τ.length = c.2.2.1.2.1 := p1.1
    have hrt := hrt
    unfold qRt at hrt
    simp only [Bool.and_eq_true] at hrt
    obtain ⟨-, h4⟩ := hrt
    generalize c.2.2.1.2 = r at hO' hls hn h4 ⊢
    obtain ⟨n, D, E, ls, st, O, G, F⟩ := r
    dsimp only at hO' hls hn h4 ⊢
    split at h4
    · exact ⟨⟨hn, p1.2⟩, (fun q hq => by cases hq), (fun q hq => by cases hq), hls, trivial, hO', (fun q hq => by cases hq), (fun q hq => by cases hq)⟩
    · cases h4
  have hf : V.2.1 = 1 := by
    obtain ⟨v, h1, w, rfl, u, u1, u2⟩ := qEnt (x := (0, 0)) (g := 8) p1.2 p6 (List.mem_append_right _ (List.mem_append_right _ (List.mem_append_right _ List.mem_cons_self)))
    dsimp only at u1 u2
    rw [p1.2] at u1
    cases Option.some.inj u1
    have e8 : Int32.ofInt V.2.1 = w := Value.int.inj (Option.some.inj (show some (Value.int (Int32.ofInt V.2.1)) = some (Value.int w) from gvG.symm.trans h1))
    rcases hOk.2.2.1 with h | h
    · exfalso
      rw [h] at e8
      rw [← e8] at u2
      revert u2
      decide
    · exact h
  obtain ⟨o, scr0, d0, τ0, cl0, H0, g1, g2, g3, g4, g5⟩ := hOk.2.1.mpr hf
  have hm := qMeet (V := V) (scr' := scr) (d' := d) hc hchk g1 hd g2 hH (rdTo hav g3) (qToV (V := (0, 0, V.2.2)) (V' := V) rfl hk g3.1.2 g4) hR hRt
  obtain ⟨r, hr1, hr2⟩ := mjRn_some (mjRn_and hm g5)
  subst hr2
  have hV := hOk.1 r ⟨scr0, d0, τ0, cl0, H0, g1, g2, g3, g4, g5⟩
  refine mjRn_mo (fun b hb => ?_) hr1
  obtain ⟨⟨pp, hp, τ', -, ⟨cv, Hb, C, S, er, k2, k3, k4, k5, k6⟩⟩, z, z1, z2, -⟩ := hb
  subst er
  have e : (.inl cv : Option Value ⊕ _) = .inl (some (qAns kd V.1)) := (show _ = _ from z2).trans (z1.symm.trans hV)
  cases Sum.inl.inj e
  exact hpost (some (qAns kd V.1)) Hb C S τ _ List.mem_cons_self sxUp.rf k2 ⟨⟨hl, p1.2⟩, (fun x hx => (by cases hx)), (fun x hx => (by cases hx)), ⟨fun i a ha => (by cases ha), fun x hx => (by cases hx)⟩, ⟨qAnsR p1.2 p6 (fun q hq => List.mem_append_right _ (List.mem_append_right _ (List.mem_append_left _ hq))), trivial⟩, (fun x hx => by
    obtain ⟨e, he, rfl⟩ := List.mem_map.mp hx
    have k3 : sxPtR T 579 (sxVw (ghL T V) scr 579 Hb) τ' pp.2 [] _ := k3
    exact qHas_ok k3.1.2 p1.2 k3.2.2.2.2.2.1 (List.all_eq_true.mp (List.all_eq_true.mp hex pp hp) e he)), (fun x hx => (by cases hx)), (fun x hx => (by cases hx))⟩ k4 k5 k6
end QP2

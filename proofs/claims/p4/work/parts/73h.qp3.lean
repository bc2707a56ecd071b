/-! pairs of queries: the left one, with numbers that its ends say -/
noncomputable section QP3
variable {T : Nat} {V : rdVt} {scr scr' : Option (List Int32)} {H H' : mjH} {d d' : Nat} {cl cl' : mjL} {τ τ' : List Int} {c : pxCt} {kd : Bool}
def qLx (c : pxCt) (ex : List (Nat × Nat × Int)) : Bool := c.2.2.2.2.2.all (fun p => ex.all (fun e => qHas p.1.2.2.2.2.2.1 e))
def qCtL2 (kd : Bool) (t : qTie) (c : pxCt) (ex : List (Nat × Nat × Int)) : sxCt := (c.1.1, c.2.1.1, (c.2.2.1.1.1, c.2.2.1.1.2.1, c.2.2.1.1.2.2.1, c.2.2.1.1.2.2.2.1, c.2.2.1.1.2.2.2.2.1, c.2.2.1.1.2.2.2.2.2.1 ++ (c.2.2.1.2.2.2.2.2.2.1 ++ (qTo t ++ qE1 kd c)), c.2.2.1.1.2.2.2.2.2.2.1, c.2.2.1.1.2.2.2.2.2.2.2), c.2.2.2.1.1,
  [(c.2.2.1.1.1, [], [], [], [.inr (kd, (qA c, 0))], qE8 ++ ex.map (fun e => (e.1, (0, Int.ofNat e.2.1), .inr (false, (0, e.2.2)))), [], [])], [], c.2.2.2.2.1.1.1, c.2.2.2.2.1.1.2)
theorem qLeftC2 {t : qTie} {ex : List (Nat × Nat × Int)} (hex : qLx c ex = true) (hc : pxCtV sxKw (ghL T V) c) (hchk : qChk kd t c = true) (hcl : qCl c = true) (hk : t.all (fun q => Nat.blt q.2 10) = true) (hOk : qOk kd t c T V) : sxCtV sxKw (ghL T V) (qCtL2 kd t c ex) := by
  intro scr Z d τ cl H hd hH hpre hpost _
  have hpre : sxPtR T 579 (sxVw (ghL T V) scr 579 H) τ (qCtL2 kd t c ex).2.2.1 cl [] := hpre
  obtain ⟨p1, p2, p3, p4, p5, p6, p7, p8⟩ := hpre
  have hL : sxPtR T 579 (sxVw (ghL T V) scr 579 H) τ c.2.2.1.1 cl [] := ⟨p1, p2, p3, p4, p5, fun x hx => p6 x (List.mem_append_left _ hx), p7, p8⟩
  have hLt : sxOR (sxVw (ghL T V) scr 579 H) τ (qTo t) := fun x hx => p6 x (List.mem_append_right _ (List.mem_append_right _ (List.mem_append_left _ hx)))
  have hchk2 := hchk
  unfold qChk at hchk2
  simp only [Bool.and_eq_true] at hchk2
  obtain ⟨⟨hrt, hav⟩, hav', -⟩ := hchk2
  have hB : sxBR T τ (c.2.2.1.1.1, c.2.2.1.1.2.1, c.2.2.1.1.2.2.1, [], []) := ⟨p1, p2, p3, (fun x hx => by cases hx), fun x hx => by cases hx⟩
  have hR : sxPtR T 579 (sxVw (ghL T V) scr 579 H) τ c.2.2.1.2 (qMk τ c.2.2.1.2.2.2.2.1) [] := by
    have hO' : sxOR (sxVw (ghL T V) scr 579 H) τ c.2.2.1.2.2.2.2.2.2.1 := fun x hx => p6 x (List.mem_append_right _ (List.mem_append_left _ hx))
    have hls : sxLR 579 τ c.2.2.1.2.2.2.2.1 (qMk τ c.2.2.1.2.2.2.2.1) := ⟨fun i a ha => ⟨_, qMk_get ha, (qVal_ok hB (List.all_eq_true.mp hcl _ (sxGt_mem ha))).1⟩, fun q hq => by
      obtain ⟨s, hs, rfl⟩ := List.mem_map.mp hq
      exact (qVal_ok hB (List.all_eq_true.mp hcl s hs)).2⟩
    have hrt := hrt
    unfold qRt at hrt
    simp only [Bool.and_eq_true] at hrt
    obtain ⟨⟨h1, -, -⟩, h4⟩ := hrt
    generalize c.2.2.1.2 = r at hO' hls h1 h4 ⊢
    obtain ⟨n, D, E, ls, st, O, G, F⟩ := r
    dsimp only at hO' hls h1 h4 ⊢
    split at h4
    · exact ⟨⟨p1.1.trans (Nat.eq_of_beq_eq_true h1).symm, p1.2⟩, (fun q hq => by cases hq), (fun q hq => by cases hq), hls, trivial, hO', (fun q hq => by cases hq), (fun q hq => by cases hq)⟩
    · cases h4
  have hm := qMeet (scr' := scr) (d' := c.2.1.2) hc hchk hd (Nat.le_refl _) hH hH hL hLt hR hLt
  obtain ⟨r, hr, hb⟩ := mjRn_ex hm
  obtain ⟨b, ⟨pp, hp, τ', ⟨cv, Ha, C, S, er, g2, g3, g4, g5, g6⟩, -⟩, -⟩ := mjRn_some hb
  have hG : qG T V.2.2 t c r := ⟨scr, d, τ, cl, H, hd, hH, rdTo hav hL, qToV (V := V) (V' := (0, 0, V.2.2)) rfl hk p1.2 hLt, hr⟩
  have hV := hOk.1 r hG
  have hf := hOk.2.1.mp ⟨r, hG⟩
  refine mjRn_mo (fun x hx => ?_) hr
  subst hx
  subst er
  have hV : (.inl cv : Option Value ⊕ _) = .inl (some (qAns kd V.1)) := hV
  cases Sum.inl.inj hV
  refine hpost (some (qAns kd V.1)) Ha C S τ _ List.mem_cons_self sxUp.rf g2 ⟨⟨p1.1, p1.2⟩, (fun x hx => (by cases hx)), (fun x hx => (by cases hx)), ⟨fun i a ha => (by cases ha), fun x hx => (by cases hx)⟩, ⟨qAnsR p1.2 p6 (fun q hq => List.mem_append_right _ (List.mem_append_right _ (List.mem_append_right _ hq))), trivial⟩, fun x hx => ?_, (fun x hx => (by cases hx)), (fun x hx => (by cases hx))⟩ g4 g5 g6
  rcases List.mem_append.mp hx with hx | hx
  · cases List.mem_singleton.mp hx
    exact ⟨((8 : Nat) : Int), .int (Int32.ofInt V.2.1), ⟨0, p1.2, rfl⟩, by decide, gvG, _, rfl, 0, p1.2, by rw [hf]; rfl⟩
  · obtain ⟨e, he, rfl⟩ := List.mem_map.mp hx
    have g3 : sxPtR T 579 (sxVw (ghL T V) scr 579 Ha) τ' pp.1 [] _ := g3
    exact qHas_ok g3.1.2 p1.2 g3.2.2.2.2.2.1 (List.all_eq_true.mp (List.all_eq_true.mp hex pp hp) e he)
end QP3

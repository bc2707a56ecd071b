/-! PX: two runs side by side, each over a heap of its own -/
noncomputable section PX
variable {Z : mjO → Prop} {scr scr' : Option (List Int32)} {F F' : List cFr} {d k pc d' k' pc' C S C' S' : Nat} {ls ls' : mjL} {st st' : List Value} {H H' : mjH}
theorem mjFin_ex {Z : mjO → Prop} : ∀ {F : List cFr} {C S : Nat} {o : mjO}, mjFin Z scr F C S o → ∃ r, mjFin (fun x => x = r) scr F C S o ∧ Z r
  | [], _, _, _, h => ⟨_, rfl, h⟩
  | _ :: _, _, _, _, ⟨h1, f, o', h2, h3⟩ => by
    obtain ⟨r, h4, h5⟩ := mjFin_ex h3
    exact ⟨r, ⟨h1, f, o', h2, h4⟩, h5⟩
theorem mjFin_mo {Z Z' : mjO → Prop} (hz : ∀ r, Z r → Z' r) : ∀ {F : List cFr} {C S : Nat} {o : mjO}, mjFin Z scr F C S o → mjFin Z' scr F C S o
  | [], _, _, _, h => hz _ h
  | _ :: _, _, _, _, ⟨h1, f, o', h2, h3⟩ => ⟨h1, f, o', h2, mjFin_mo hz h3⟩
theorem mjRn_ex (h : mjRn Z scr F d k pc ls st H C S) : ∃ r, mjRn (fun x => x = r) scr F d k pc ls st H C S ∧ Z r := by
  obtain ⟨f, o, h1, h2⟩ := h
  obtain ⟨r, h3, h4⟩ := mjFin_ex h2
  exact ⟨r, ⟨f, o, h1, h3⟩, h4⟩
theorem mjRn_mo {Z' : mjO → Prop} (hz : ∀ r, Z r → Z' r) (h : mjRn Z scr F d k pc ls st H C S) : mjRn Z' scr F d k pc ls st H C S := by
  obtain ⟨f, o, h1, h2⟩ := h
  exact ⟨f, o, h1, mjFin_mo hz h2⟩
/-- which of the two is looked at first doesn't matter -/
theorem mjRn_sw {Y : mjO → mjO → Prop} (h : mjRn (fun a => mjRn (fun b => Y a b) scr' F' d' k' pc' ls' st' H' C' S') scr F d k pc ls st H C S) :
    mjRn (fun b => mjRn (fun a => Y a b) scr F d k pc ls st H C S) scr' F' d' k' pc' ls' st' H' C' S' := by
  obtain ⟨r, h1, h2⟩ := mjRn_ex h
  obtain ⟨q, h3, h4⟩ := mjRn_ex h2
  exact mjRn_mo (fun x hx => by subst hx; exact mjRn_mo (fun y hy => by subst hy; exact h4) h1) h3
end PX

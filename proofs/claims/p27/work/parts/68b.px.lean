/-! PX: a step of one of the two -/
noncomputable section PX2
/-- a machine's run as it stands: frames, room, method, place, locals, stack, heap, what was made; or how it ended -/
abbrev pxC : Type := List cFr × Nat × Nat × Nat × mjL × List Value × mjH × Nat × Nat
abbrev pxM : Type := pxC ⊕ mjO
def pxRun (scr : Option (List Int32)) (Z : mjO → Prop) : pxM → Prop
  | .inl (F, d, k, pc, ls, st, H, C, S) => mjRn Z scr F d k pc ls st H C S
  | .inr o => Z o
/-- a side's value at its end -/
def pxVv (σ : List Int) : Option sxV → Option Value → Prop
  | none, none => True
  | some a, some w => sxVR σ a w
  | _, _ => False
def pxSR (X : sxCx) (gh : sxGh) (scr : Option (List Int32)) (v0 : Nat → Nat → Option Value) (d0 : Nat) (σ : List Int) : sxE1 → pxM → Prop
  | .inl s, .inl (F, d, k, pc, ls, st, H, C, S) => (s.2.1 = k ∧ s.2.2.1 = pc) ∧ sxRel X gh scr v0 d0 σ s F d ls st H C S
  | .inr (.inl (v, B, O, G, C0, S0)), .inr o => ∃ (cv : Option Value) (H : mjH) (C S : Nat), o = (.inl cv, H, C, S) ∧ pxVv σ v cv ∧ sxHS X gh scr v0 σ B O G H ∧ C ≤ C0 ∧ S ≤ S0
  | .inr (.inr (E, B, O, G, C0, S0)), .inr o => ∃ (H : mjH) (C S : Nat), o = (.inr E, H, C, S) ∧ sxHS X gh scr v0 σ B O G H ∧ C ≤ C0 ∧ S ≤ S0
  | _, _ => False
/-- what is known of the numbers -/
def pxEB : sxE1 → sxB
  | .inl s => s.2.2.2.2.2.1
  | .inr (.inl q) => q.2.1
  | .inr (.inr q) => q.2.1
def pxSB (B : sxB) : sxE1 → sxE1
  | .inl s => .inl (s.1, s.2.1, s.2.2.1, s.2.2.2.1, s.2.2.2.2.1, B, s.2.2.2.2.2.2)
  | .inr (.inl q) => .inr (.inl (q.1, B, q.2.2))
  | .inr (.inr q) => .inr (.inr (q.1, B, q.2.2))
/-- the same, laid out at once -/
def pxSBk (B : sxB) (e : sxE1) (f : sxE1 → Bool) : Bool := match e with
  | .inl (F, k, pc, ls, st, _, O, G, C, S) => f (.inl (F, k, pc, ls, st, B, O, G, C, S))
  | .inr (.inl (v, _, O, G, C, S)) => f (.inr (.inl (v, B, O, G, C, S)))
  | .inr (.inr (E, _, O, G, C, S)) => f (.inr (.inr (E, B, O, G, C, S)))
theorem pxSBk_eq (B : sxB) (e : sxE1) (f : sxE1 → Bool) : pxSBk B e f = f (pxSB B e) := by
  match e with
  | .inl (F, k, pc, ls, st, B0, O, G, C, S) => rfl
  | .inr (.inl (v, B0, O, G, C, S)) => rfl
  | .inr (.inr (E, B0, O, G, C, S)) => rfl
def pxEBk (e : sxE1) (f : sxB → sxE1 → Bool) : Bool := match e with
  | .inl (F, k, pc, ls, st, B, O, G, C, S) => f B (.inl (F, k, pc, ls, st, B, O, G, C, S))
  | .inr (.inl (v, B, O, G, C, S)) => f B (.inr (.inl (v, B, O, G, C, S)))
  | .inr (.inr (E, B, O, G, C, S)) => f B (.inr (.inr (E, B, O, G, C, S)))
theorem pxEBk_eq (e : sxE1) (f : sxB → sxE1 → Bool) : pxEBk e f = f (pxEB e) e := by
  match e with
  | .inl (F, k, pc, ls, st, B0, O, G, C, S) => rfl
  | .inr (.inl (v, B0, O, G, C, S)) => rfl
  | .inr (.inr (E, B0, O, G, C, S)) => rfl
variable {X X' : sxCx} {gh : sxGh} {scr scr' : Option (List Int32)} {v0 v0' : Nat → Nat → Option Value} {d0 d0' : Nat} {σ σ' τ : List Int} {s s' : sxS} {e e' : sxE1} {m m' : pxM} {B : sxB} {Z : mjO → Prop} {Y : mjO → mjO → Prop} {J J' : sxJb} {L : List sxE1}
theorem sxHS.up {O : sxO} {G : sxG} {H : mjH} {B0 : sxB} (h : sxHS X gh scr v0 σ B0 O G H) (hu : sxUp σ σ') (hB : sxBR (gT gh) σ' B) : sxHS X gh scr v0 σ' B O G H := by
  obtain ⟨h5, h6, h7, h8, h9, h10⟩ := h
  exact ⟨hB, h6, h7.up hu, h8.up hu, h9, h10.up hu⟩
theorem pxVv.up {v : Option sxV} {cv : Option Value} (h : pxVv σ v cv) (hu : sxUp σ σ') : pxVv σ' v cv := by
  cases v <;> cases cv
  · trivial
  · exact h.elim
  · exact h.elim
  · exact sxVR.up h hu
theorem pxSR.up (h : pxSR X gh scr v0 d0 σ e m) (hu : sxUp σ σ') (hB : sxBR (gT gh) σ' B) : pxSR X gh scr v0 d0 σ' (pxSB B e) m := by
  match e, m, h with
  | .inl s, .inl (F, d, k, pc, ls, st, H, C, S), ⟨h0, ⟨h1, h2⟩, h3, h4, h5, h11, h12⟩ => exact ⟨h0, ⟨h1.up hu, h2⟩, h3.up hu, h4.up hu, h5.up hu hB, h11, h12⟩
  | .inr (.inl (v, B0, O, G, C0, S0)), .inr o, ⟨cv, H, C, S, h1, h2, h3, h4, h5⟩ => exact ⟨cv, H, C, S, h1, h2.up hu, h3.up hu hB, h4, h5⟩
  | .inr (.inr (E, B0, O, G, C0, S0)), .inr o, ⟨H, C, S, h1, h3, h4, h5⟩ => exact ⟨H, C, S, h1, h3.up hu hB, h4, h5⟩
theorem pxSR_B (h : pxSR X gh scr v0 d0 σ e m) : sxBR (gT gh) σ (pxEB e) := by
  match e, m, h with
  | .inl s, .inl (F, d, k, pc, ls, st, H, C, S), ⟨h0, h1, h3, h4, h5, h11, h12⟩ => exact h5.1
  | .inr (.inl (v, B0, O, G, C0, S0)), .inr o, ⟨cv, H, C, S, h1, h2, h3, h4, h5⟩ => exact h3.1
  | .inr (.inr (E, B0, O, G, C0, S0)), .inr o, ⟨H, C, S, h1, h3, h4, h5⟩ => exact h3.1
theorem pxRun_mo {Z' : mjO → Prop} (hz : ∀ r, Z r → Z' r) (h : pxRun scr Z m) : pxRun scr Z' m := by
  match m, h with
  | .inl _, h => exact mjRn_mo hz h
  | .inr _, h => exact hz _ h
theorem pxRun_ex (h : pxRun scr Z m) : ∃ r, pxRun scr (fun x => x = r) m ∧ Z r := by
  match m, h with
  | .inl _, h => exact mjRn_ex h
  | .inr o, h => exact ⟨o, rfl, h⟩
theorem pxRun_sw (h : pxRun scr (fun a => pxRun scr' (fun b => Y a b) m') m) : pxRun scr' (fun b => pxRun scr (fun a => Y a b) m) m' := by
  obtain ⟨r, h1, h2⟩ := pxRun_ex h
  obtain ⟨q, h3, h4⟩ := pxRun_ex h2
  exact pxRun_mo (fun x hx => by subst hx; exact pxRun_mo (fun y hy => by subst hy; exact h4) h1) h3
/-- both go on from here -/
def pxW (scr scr' : Option (List Int32)) (Y : mjO → mjO → Prop) (m m' : pxM) : Prop := pxRun scr (fun a => pxRun scr' (Y a) m') m
theorem pxW.sw (h : pxW scr scr' Y m m') : pxW scr' scr (fun b a => Y a b) m' m := pxRun_sw h
/-- the left one steps -/
theorem pxStep (hGd : sxGd J.1.1 gh) (hK : J.1.1.2.1 < mjScr) (hd0 : J.1.2.2.1 ≤ d0) (hV : ∀ ct ∈ J.2.1, sxCtV J.1.1 gh ct) (h : sxNext J s = some L) (hR : pxSR J.1 gh scr v0 d0 σ (.inl s) m) (hR' : pxSR X' gh scr' v0' d0' σ e' m')
    (hL : ∀ e ∈ L, ∀ (σ2 : List Int) (m2 : pxM), sxUp σ σ2 → pxSR J.1 gh scr v0 d0 σ2 e m2 → pxSR X' gh scr' v0' d0' σ2 (pxSB (pxEB e) e') m' → pxW scr scr' Y m2 m') : pxW scr scr' Y m m' := by
  match m, hR with
  | .inl (F, d, k, pc, ls, st, H, C, S), hR =>
    obtain ⟨⟨h1, h2⟩, hr⟩ := hR
    subst h1 h2
    refine sxNext_ok hGd hK hd0 hV h sxUp.rf hr fun e he => ?_
    have hA := hL e he
    match e, hA with
    | .inl s2, hA => exact fun σ2 cF d cl cs H C S hu hr => hA σ2 (.inl (cF, d, s2.2.1, s2.2.2.1, cl, cs, H, C, S)) hu ⟨⟨rfl, rfl⟩, hr⟩ (hR'.up hu hr.2.2.2.1.1)
    | .inr (.inl (v, B, O, G, C0, S0)), hA => exact fun σ2 cv H C S hu hv hs hC hS => hA σ2 (.inr (.inl cv, H, C, S)) hu ⟨cv, H, C, S, rfl, (by cases v <;> cases cv <;> exact hv), hs, hC, hS⟩ (hR'.up hu hs.1)
    | .inr (.inr (E, B, O, G, C0, S0)), hA => exact fun σ2 H C S hu hs hC hS => hA σ2 (.inr (.inr E, H, C, S)) hu ⟨H, C, S, rfl, hs, hC, hS⟩ (hR'.up hu hs.1)
/-- the right one steps -/
theorem pxStepR (hGd : sxGd J.1.1 gh) (hK : J.1.1.2.1 < mjScr) (hd0 : J.1.2.2.1 ≤ d0) (hV : ∀ ct ∈ J.2.1, sxCtV J.1.1 gh ct) (h : sxNext J s = some L) (hR : pxSR J.1 gh scr' v0 d0 σ (.inl s) m') (hR' : pxSR X' gh scr v0' d0' σ e m)
    (hL : ∀ e2 ∈ L, ∀ (σ2 : List Int) (m2 : pxM), sxUp σ σ2 → pxSR J.1 gh scr' v0 d0 σ2 e2 m2 → pxSR X' gh scr v0' d0' σ2 (pxSB (pxEB e2) e) m → pxW scr scr' Y m m2) : pxW scr scr' Y m m' :=
  (pxStep hGd hK hd0 hV h hR hR' (fun e2 he σ2 m2 hu h1 h2 => (hL e2 he σ2 m2 hu h1 h2).sw)).sw
end PX2

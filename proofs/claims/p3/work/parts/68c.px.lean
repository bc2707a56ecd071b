/-! PX: patterns of two sides over the same numbers -/
noncomputable section PX3
abbrev pxPt : Type := sxPt × sxPt
def pxBnd (r : Nat) (q : pxPt) (ls : sxL) (st : List sxV) (O : sxO) (ls' : sxL) (st' : List sxV) (O' : sxO) (B : sxB) : sxTa :=
  sxBndO B O' q.2.2.2.2.2.2.1 (sxBndS B q.2.2.2.2.2.1 st' (sxBndL B ls' q.2.2.2.2.1 (sxBndO B O q.1.2.2.2.2.2.1 (sxBndS B q.1.2.2.2.2.1 st (sxBndL B ls q.1.2.2.2.1 (sxRg0 r))))))
def pxMtc (r : Nat) (q : pxPt) (ls : sxL) (st : List sxV) (O : sxO) (ls' : sxL) (st' : List sxV) (O' : sxO) (B : sxB) : List sxN :=
  (fun t => (List.range q.1.1).map (fun i => match sxTaG t i with | some n => n | none => (0, 0)))
    (match q.1.2.2.2.2.2.2.2 with
      | [] => pxBnd r q ls st O ls' st' O' B
      | f :: fs => sxBndO B O' q.2.2.2.2.2.2.1 (sxBndO B O q.1.2.2.2.2.2.1 (sxBndF B (f :: fs) (pxBnd r q ls st O ls' st' O' B))))
def pxInc (r : Nat) (θ : List sxN) (q : pxPt) (ls : sxL) (st : List sxV) (O : sxO) (G : sxG) (ls' : sxL) (st' : List sxV) (O' : sxO) (G' : sxG) (B : sxB) : Bool := match sxIncl r θ q.1 ls st B O G with
  | true => sxIncl r θ q.2 ls' st' B O' G'
  | false => false
theorem pxInc_ok {T : Nat} {σ : List Int} {vw vw' : Nat → Nat → Option Value} {B : sxB} {O O' : sxO} {G G' : sxG} {ls ls' : sxL} {st st' : List sxV} {cl cl' : mjL} {cs cs' : List Value} {θ : List sxN} {n n' r : Nat} {q : pxPt} (hB : sxBR T σ B) (hl : sxLR n σ ls cl) (hs : sxSR σ st cs) (hO : sxOR vw σ O) (hG : sxGR vw σ G)
    (hl' : sxLR n' σ ls' cl') (hs' : sxSR σ st' cs') (hO' : sxOR vw' σ O') (hG' : sxGR vw' σ G') (hr0 : 0 < r) (h : pxInc r θ q ls st O G ls' st' O' G' B = true) :
    sxPtR T n vw (sxSb σ θ) q.1 cl cs ∧ sxPtR T n' vw' (sxSb σ θ) q.2 cl' cs' ∧ ∀ i, i < r → (sxSb σ θ)[i]? = some (σ.getD i 0) := by
  unfold pxInc at h
  split at h
  · rename_i h1
    obtain ⟨a, b⟩ := sxIncl_ok hB hl hs hO hG hr0 h1
    exact ⟨a, (sxIncl_ok hB hl' hs' hO' hG' hr0 h).1, b⟩
  · cases h
/-- a side has returned -/
def pxEnR (K : sxKx) (gh : sxGh) (scr : Option (List Int32)) (M : sxMo) (cs : Nat × Nat) (v0 : Nat → Nat → Option Value) (τ : List Int) (p : sxPt) (o : mjO) : Prop :=
  ∃ (cv : Option Value) (H : mjH) (C S : Nat), o = (.inl cv, H, C, S) ∧ sxHR K H ∧ sxPtR (gT gh) K.2.1 (sxVw gh scr K.2.1 H) τ p [] cv.toList ∧ sxKp M v0 (sxVw gh scr K.2.1 H) ∧ C ≤ cs.1 ∧ S ≤ cs.2
/-- a contract of two: methods, frames that each needs, what must stand ahead, what each may write, what each may make, how they end (both return) -/
abbrev pxCt : Type := (Nat × Nat) × (Nat × Nat) × pxPt × (sxMo × sxMo) × ((Nat × Nat) × (Nat × Nat)) × List pxPt
def pxCtV (K : sxKx) (gh : sxGh) (c : pxCt) : Prop := ∀ (scr scr' : Option (List Int32)) (Y : mjO → mjO → Prop) (d d' : Nat) (τ : List Int) (cl cl' : mjL) (H H' : mjH), c.2.1.1 ≤ d → c.2.1.2 ≤ d' → sxHR K H → sxHR K H' →
  sxPtR (gT gh) K.2.1 (sxVw gh scr K.2.1 H) τ c.2.2.1.1 cl [] → sxPtR (gT gh) K.2.1 (sxVw gh scr' K.2.1 H') τ c.2.2.1.2 cl' [] →
  (∀ q ∈ c.2.2.2.2.2, ∀ (o o' : mjO) (τ' : List Int), sxUp τ τ' → pxEnR K gh scr c.2.2.2.1.1 c.2.2.2.2.1.1 (sxVw gh scr K.2.1 H) τ' q.1 o → pxEnR K gh scr' c.2.2.2.1.2 c.2.2.2.2.1.2 (sxVw gh scr' K.2.1 H') τ' q.2 o' → Y o o') →
  mjRn (fun a => mjRn (Y a) scr' [] d' c.1.2 0 cl' [] H' 0 0) scr [] d c.1.1 0 cl [] H 0 0
end PX3

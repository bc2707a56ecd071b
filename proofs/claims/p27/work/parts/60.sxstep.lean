/-! SX: one step -/
noncomputable section SXSTEP
abbrev sxFm : Type := Nat × Nat × sxL × List sxV
abbrev sxS : Type := List sxFm × Nat × Nat × sxL × List sxV × sxB × sxO × sxG × Nat × Nat
abbrev sxEd : Type := Option sxV × sxB × sxO × sxG × Nat × Nat
abbrev sxThn : Type := Nat × sxB × sxO × sxG × Nat × Nat
abbrev sxE1 : Type := sxS ⊕ (sxEd ⊕ sxThn)
/-- where all this is: cells, what may be written, frames that may be needed, the script's length -/
abbrev sxCx : Type := sxKx × sxMo × Nat × Option sxN
abbrev sxKt : Type := List sxFm → sxL → List sxV → sxB → sxO → sxG → Nat → Nat → Option (List sxE1)
def sxPop (v : Option sxV) (F : List sxFm) (B : sxB) (O : sxO) (G : sxG) (C S : Nat) : sxE1 := match F with
  | [] => .inr (.inl (v, B, O, G, C, S))
  | (k, pc, ls, rest) :: F' => .inl (F', k, pc + 3, ls, v.toList ++ rest, B, O, G, C, S)
def sxThrow : List sxFm → Nat → sxB → sxO → sxG → Nat → Nat → Option sxE1
  | [], E, B, O, G, C, S => some (.inr (.inr (E, B, O, G, C, S)))
  | (k, pc, ls, rest) :: F', E, B, O, G, C, S => match mjCatch ((mjHh k).zip (mjHd k)) pc E with
    | none => sxThrow F' E B O G C S
    | some hpc => match mjAtI k hpc with
      | some (.astore_n j, _) => some (.inl (F', k, hpc + 1, sxDel (j : Nat) ls, [], B, O, G, C, S))
      | some (.astore j, _) => some (.inl (F', k, hpc + 2, sxDel j ls, [], B, O, G, C, S))
      | _ => none
def sxNw (ty : FieldType) (B : sxB) (a : sxV) : Bool := match a with
  | .inl _ => false
  | .inr (true, _) => false
  | .inr (false, x) => match ty with
    | .int => true
    | .boolean => (match sxRg B x with | some p => (match iLe 0 p.1 with | true => iLe p.2 1 | false => false) | none => false)
    | _ => false
def sxRecv (K : sxKx) (i : Instr) (own : String) (as : List sxV) : Bool := match i with
  | .invokevirtual _ => match as with
    | .inl o :: _ => match aGet2 K.1 o with
      | some c => (match Nat.blt o K.2.1 with
        | true => (match vwCl[c.1]? with
          | some r => decide (r.1 = own)
          | none => false)
        | false => false)
      | none => false
    | _ => false
  | .invokespecial _ => match as with
    | .inl _ :: _ => true
    | _ => false
  | _ => true
def sxCall (X : sxCx) (k pc : Nat) (i : Instr) (a : Nat) : Option sxKt := match mjM a with
  | none => none
  | some (y2, nL2, ret2, own2, hh2, np2, stt2) => if a = mjLaw then none else some (fun F ls st B O G C S =>
      match Nat.ble (if stt2 then np2 else np2 + 1) st.length with
      | true => (match Nat.blt F.length X.2.2.1 with
        | true => (match Nat.ble ((st.drop (if stt2 then np2 else np2 + 1)).map sxCat).sum 8 with
          | true => (match sxRecv X.1 i own2 (st.take (if stt2 then np2 else np2 + 1)).reverse with
            | true => (match Nat.ble ((st.take (if stt2 then np2 else np2 + 1)).reverse.map sxCat).sum nL2 with
              | true => (match sxScA X.1.2.1 st with
                | true => some [.inl ((k, pc, ls, st.drop (if stt2 then np2 else np2 + 1)) :: F, a, 0, sxArgs 0 (st.take (if stt2 then np2 else np2 + 1)).reverse, [], B, O, G, C, S)]
                | false => none)
              | false => none)
            | false => none)
          | false => none)
        | false => none)
      | false => none)
def sxMath (k p : Nat) (mn : Bool) : sxKt := fun F ls st B O G C S => match st with
  | .inr (false, y) :: .inr (false, x) :: r => (match Nat.ble (r.map sxCat).sum 8 with
    | true => (match mn with
      | false => some ((sxLtC B x y).map (fun B => .inl (F, k, p, ls, .inr (false, y) :: r, B, O, G, C, S)) ++ (sxLeC B y x).map (fun B => .inl (F, k, p, ls, .inr (false, x) :: r, B, O, G, C, S)))
      | true => some ((sxLtC B y x).map (fun B => .inl (F, k, p, ls, .inr (false, y) :: r, B, O, G, C, S)) ++ (sxLeC B x y).map (fun B => .inl (F, k, p, ls, .inr (false, x) :: r, B, O, G, C, S))))
    | false => none)
  | _ => none
def sxText (k p a : Nat) : sxKt := fun F ls st B O G C S => match a with
  | 900 => (match st with
    | .inl o :: r => (match mjTxo o with
      | some bs => (match Nat.ble (r.map sxCat).sum 8 with
        | true => (match Nat.blt bs.length 2147483648 with
          | true => some [.inl (F, k, p, ls, .inr (false, (0, Int.ofNat bs.length)) :: r, B, O, G, C, S)]
          | false => none)
        | false => none)
      | none => none)
    | _ => none)
  | _ => (match st with
    | .inr (false, (0, i)) :: .inl o :: r => (match mjTxo o with
      | some bs => (match Nat.ble (r.map sxCat).sum 8 with
        | true => (match iLe 0 i with
          | true => (match bs[i.toNat]? with
            | some c => (match Nat.blt c 2147483648 with
              | true => some [.inl (F, k, p, ls, .inr (false, (0, Int.ofNat c)) :: r, B, O, G, C, S)]
              | false => none)
            | none => none)
          | false => none)
        | false => none)
      | none => none)
    | _ => none)
def sxStepI (X : sxCx) (k pc : Nat) (x : mjX) : Option sxKt := match mjM k with
  | none => none
  | some (y, nL, ret, own, hh, np, stt) => match x.1 with
    | .ireturn => match ret with
      | some ty => some (fun F ls st B O G C S => match st with | [a] => (match sxNw ty B a with | true => some [sxPop (some a) F B O G C S] | false => none) | _ => none)
      | none => none
    | .lreturn => if ret = some .long then some (fun F ls st B O G C S => match st with | [a] => (match Nat.beq (sxK a) 1 with | true => some [sxPop (some a) F B O G C S] | false => none) | _ => none) else none
    | .areturn => match ret with
      | some (.object _) => some (fun F ls st B O G C S => match st with | [a] => (match Nat.beq (sxK a) 2 with | true => some [sxPop (some a) F B O G C S] | false => none) | _ => none)
      | _ => none
    | .return_ => if ret = none then some (fun F ls st B O G C S => match st with | [] => some [sxPop none F B O G C S] | _ => none) else none
    | .new _ => if x.2.2.2.1 = 0 then none
      else if mjThr k pc hh x.2.2.1 = true then some (fun F ls st B O G C S => match Nat.ble (st.map sxCat).sum 8 with | true => (match sxThrow F x.2.2.1 B O G (C + 1) (S + 6) with | some e => some [e] | none => none) | false => none) else none
    | .newarray _ => none
    | .anewarray _ => none
    | .multianewarray _ _ => none
    | .invokespecial i => if x.2.2.1 = 998 then none else sxCall X k pc (.invokespecial i) x.2.2.1
    | .invokevirtual i => if x.2.2.1 = 900 ∨ x.2.2.1 = 901 then some (sxText k (pc + 3) x.2.2.1) else sxCall X k pc (.invokevirtual i) x.2.2.1
    | .invokestatic i => if x.2.2.1 = 902 then some (sxMath k (pc + 3) false) else if x.2.2.1 = 903 then some (sxMath k (pc + 3) true) else sxCall X k pc (.invokestatic i) x.2.2.1
    | _ => match sxAlu X.1.2.1 x.1 pc x.2.2.2.1 with
      | some g => some (fun F ls st B O G C S => match g B ls st with | some l => some (sxMap (fun q => .inl (F, k, q.1, q.2.1, q.2.2.1, q.2.2.2, O, G, C, S)) l) | none => none)
      | none => match sxHp X.1 X.2.1 (mjSco X.2.2.2 k) x pc with
        | some g => some (fun F ls st B O G C S => match g B O G st with | some l => some (sxMap (fun q => .inl (F, k, q.1, ls, q.2.1, q.2.2.1, q.2.2.2.1, q.2.2.2.2, C, S)) l) | none => none)
        | none => none
def sxStepAt (X : sxCx) (k pc : Nat) : Option sxKt := match mjAtI k pc with
  | some x => sxStepI X k pc x
  | none => none
/-- frames, the depth above them -/
def sxFs (σ : List Int) (n : Nat) : Nat → List sxFm → List cFr → Prop
  | _, [], [] => True
  | d, a :: as, c :: cs => (c.1 = d + 1 ∧ a.1 = c.2.1 ∧ a.2.1 = c.2.2.1 ∧ c.2.2.2.1 = n) ∧ (sxLR n σ a.2.2.1 c.2.2.2.2.1 ∧ sxSR σ a.2.2.2 c.2.2.2.2.2) ∧ sxFs σ n (d + 1) as cs
  | _, _, _ => False
theorem sxFs.up {σ σ' : List Int} {n : Nat} (hu : sxUp σ σ') : ∀ {d : Nat} {F : List sxFm} {cF : List cFr}, sxFs σ n d F cF → sxFs σ' n d F cF
  | _, [], [], _ => trivial
  | _, _ :: _, _ :: _, h => ⟨h.1, ⟨sxLR.up hu h.2.1.1, sxSR.up hu h.2.1.2⟩, sxFs.up hu h.2.2⟩
  | _, [], _ :: _, h => h.elim
  | _, _ :: _, [], h => h.elim
/-- the heap's part of a state -/
def sxHS (X : sxCx) (gh : sxGh) (scr : Option (List Int32)) (v0 : Nat → Nat → Option Value) (σ : List Int) (B : sxB) (O : sxO) (G : sxG) (H : mjH) : Prop :=
  sxBR (gT gh) σ B ∧ sxHR X.1 H ∧ sxOR (sxVw gh scr X.1.2.1 H) σ O ∧ sxGR (sxVw gh scr X.1.2.1 H) σ G ∧ sxKp X.2.1 v0 (sxVw gh scr X.1.2.1 H) ∧ sxSl σ X.2.2.2 scr
def sxRel (X : sxCx) (gh : sxGh) (scr : Option (List Int32)) (v0 : Nat → Nat → Option Value) (d0 : Nat) (σ : List Int) (s : sxS) (cF : List cFr) (d : Nat) (cl : mjL) (cs : List Value) (H : mjH) (C S : Nat) : Prop :=
  (sxFs σ X.1.2.1 d s.1 cF ∧ d + s.1.length = d0) ∧ sxLR X.1.2.1 σ s.2.2.2.1 cl ∧ sxSR σ s.2.2.2.2.1 cs ∧ sxHS X gh scr v0 σ s.2.2.2.2.2.1 s.2.2.2.2.2.2.1 s.2.2.2.2.2.2.2.1 H ∧ C ≤ s.2.2.2.2.2.2.2.2.1 ∧ S ≤ s.2.2.2.2.2.2.2.2.2
/-- one of the ways is the machine's, and it is enough to go on there -/
def sxGd1 (X : sxCx) (gh : sxGh) (scr : Option (List Int32)) (v0 : Nat → Nat → Option Value) (d0 : Nat) (Z : mjO → Prop) (σ : List Int) (P : Prop) : sxE1 → Prop
  | .inl s => ∃ (σ' : List Int) (cF : List cFr) (d : Nat) (cl : mjL) (cs : List Value) (H : mjH) (C S : Nat), sxUp σ σ' ∧ sxRel X gh scr v0 d0 σ' s cF d cl cs H C S ∧ (mjRn Z scr cF d s.2.1 s.2.2.1 cl cs H C S → P)
  | .inr (.inl (v, B, O, G, C0, S0)) => ∃ (σ' : List Int) (cv : Option Value) (H : mjH) (C S : Nat), sxUp σ σ' ∧ (match v, cv with | none, none => True | some a, some w => sxVR σ' a w | _, _ => False) ∧ sxHS X gh scr v0 σ' B O G H ∧ C ≤ C0 ∧ S ≤ S0 ∧ (Z (.inl cv, H, C, S) → P)
  | .inr (.inr (E, B, O, G, C0, S0)) => ∃ (σ' : List Int) (H : mjH) (C S : Nat), sxUp σ σ' ∧ sxHS X gh scr v0 σ' B O G H ∧ C ≤ C0 ∧ S ≤ S0 ∧ (Z (.inr E, H, C, S) → P)
theorem sxGd1.imp {X : sxCx} {gh : sxGh} {scr : Option (List Int32)} {v0 : Nat → Nat → Option Value} {d0 : Nat} {Z : mjO → Prop} {σ : List Int} {P Q : Prop} {e : sxE1} (h : sxGd1 X gh scr v0 d0 Z σ P e) (hpq : P → Q) : sxGd1 X gh scr v0 d0 Z σ Q e := by
  match e, h with
  | .inl s, h => obtain ⟨a1, a2, a3, a4, a5, a6, a7, a8, h1, h2, h3⟩ := h; exact ⟨a1, a2, a3, a4, a5, a6, a7, a8, h1, h2, fun z => hpq (h3 z)⟩
  | .inr (.inl (v, B, O, G, C0, S0)), h => obtain ⟨a1, a2, a3, a4, a5, h1, h2, h3, h4, h5, h6⟩ := h; exact ⟨a1, a2, a3, a4, a5, h1, h2, h3, h4, h5, fun z => hpq (h6 z)⟩
  | .inr (.inr (E, B, O, G, C0, S0)), h => obtain ⟨a1, a2, a3, a4, h1, h2, h3, h4, h5⟩ := h; exact ⟨a1, a2, a3, a4, h1, h2, h3, h4, fun z => hpq (h5 z)⟩
theorem sxSl.up {σ σ' : List Int} {sl : Option sxN} {scr : Option (List Int32)} (hu : sxUp σ σ') (h : sxSl σ sl scr) : sxSl σ' sl scr := by
  cases sl with
  | none => trivial
  | some n => obtain ⟨xs, h1, h2, h3⟩ := h; exact ⟨xs, h1, h2, h3.up hu⟩
variable {X : sxCx} {gh : sxGh} {scr : Option (List Int32)} {v0 : Nat → Nat → Option Value} {d0 : Nat} {Z : mjO → Prop} {σ : List Int} {F : List sxFm} {cF : List cFr} {k pc d C S C0 S0 : Nat} {ls : sxL} {st : List sxV} {B : sxB} {O : sxO} {G : sxG} {cl : mjL} {cs : List Value} {H : mjH}
theorem sxPop_ok {v : Option sxV} {cv : Option Value} (hv : match v, cv with | none, none => True | some a, some w => sxVR σ a w | _, _ => False) (hF : sxFs σ X.1.2.1 d F cF) (hd : d + F.length = d0) (hH : sxHS X gh scr v0 σ B O G H) (hC : C ≤ C0) (hS : S ≤ S0) :
    sxGd1 X gh scr v0 d0 Z σ (mjFin Z scr cF C S (.inl cv, H, 0, 0)) (sxPop v F B O G C0 S0) := by
  cases F with
  | nil =>
    cases cF with
    | cons _ _ => exact hF.elim
    | nil => exact ⟨σ, cv, H, C, S, sxUp.rf, hv, hH, hC, hS, id⟩
  | cons q F' =>
    obtain ⟨k0, pc0, ls0, rest0⟩ := q
    cases cF with
    | nil => exact hF.elim
    | cons c cF' =>
      obtain ⟨d1, k1, pc1, n1, ls1, rest1⟩ := c
      obtain ⟨⟨e1, e2, e3, e4⟩, ⟨e5, e6⟩, e7⟩ := hF
      dsimp only at e1 e2 e3 e4 e5 e6
      subst e1 e2 e3 e4
      refine ⟨σ, cF', d + 1, ls1, cv.toList ++ rest1, H, C, S, sxUp.rf, ⟨⟨e7, by simp only [List.length_cons] at hd; show d + 1 + F'.length = d0; omega⟩, e5, sxSR_app ?_ e6, hH, hC, hS⟩, fun z => mjFin.ret (by rw [hH.2.1.1]; exact Nat.le_refl _) z⟩
      cases v <;> cases cv
      · exact trivial
      · exact hv.elim
      · exact hv.elim
      · exact ⟨hv, trivial⟩
theorem sxThrow_ok {E c s : Nat} {e : sxE1} : ∀ {F : List sxFm} {cF : List cFr} {d : Nat}, sxThrow F E B O G C0 S0 = some e → sxFs σ X.1.2.1 d F cF → d + F.length = d0 → sxHS X gh scr v0 σ B O G H → C + c ≤ C0 → S + s ≤ S0 → sxGd1 X gh scr v0 d0 Z σ (mjFin Z scr cF C S (.inr E, H, c, s)) e
  | [], cF, d, h, hF, hd, hH, hC, hS => by
    cases cF with
    | cons _ _ => exact hF.elim
    | nil =>
      cases h
      exact ⟨σ, H, C + c, S + s, sxUp.rf, hH, hC, hS, id⟩
  | (k0, pc0, ls0, rest0) :: F', cF, d, h, hF, hd, hH, hC, hS => by
    cases cF with
    | nil => exact hF.elim
    | cons q cF' =>
      obtain ⟨d1, k1, pc1, n1, ls1, rest1⟩ := q
      obtain ⟨⟨e1, e2, e3, e4⟩, ⟨e5, e6⟩, e7⟩ := hF
      dsimp only at e1 e2 e3 e4 e5 e6
      subst e1 e2 e3 e4
      have hn : X.1.2.1 ≤ H.length := by rw [hH.2.1.1]; exact Nat.le_refl _
      have hd' : d + 1 + F'.length = d0 := by simp only [List.length_cons] at hd; omega
      unfold sxThrow at h
      split at h
      · rename_i hc
        exact (sxThrow_ok h e7 hd' hH hC hS).imp (fun z => mjFin.pass hn hc z)
      · rename_i hpc hc
        split at h
        · rename_i j z hj
          cases h
          exact ⟨σ, cF', d + 1, _, [], H, C + c, S + s, sxUp.rf, ⟨⟨e7, hd'⟩, sxLR_del e5, trivial, hH, hC, hS⟩, fun z0 => mjFin.catch hn hc (Or.inl ⟨j, z, hj, rfl, rfl⟩) z0⟩
        · rename_i j z hj
          cases h
          exact ⟨σ, cF', d + 1, _, [], H, C + c, S + s, sxUp.rf, ⟨⟨e7, hd'⟩, sxLR_del e5, trivial, hH, hC, hS⟩, fun z0 => mjFin.catch hn hc (Or.inr ⟨z, hj, rfl⟩) z0⟩
        · cases h
theorem sxNw_ok {ty : FieldType} {a : sxV} {v : Value} (hB : sxBR (gT gh) σ B) (h : sxNw ty B a = true) (hv : sxVR σ a v) : ∃ x : Int32, v = .int x ∧ narrow ty (.int x) = .int x := by
  match a, hv with
  | .inl r, hv => cases h
  | .inr (true, _), hv => cases h
  | .inr (false, y), hv =>
    obtain ⟨z, rfl, hz⟩ := hv
    unfold sxNw at h
    cases ty <;> first | exact ⟨z, rfl, rfl⟩ | (cases h; done) | skip
    dsimp only at h
    split at h
    · rename_i q hq
      split at h
      · rename_i e1
        have e1 := iLe_ok e1
        have e2 := iLe_ok h
        have e3 := sxRg_ok hB hq hz
        have : z.toInt = 0 ∨ z.toInt = 1 := by omega
        rcases this with h0 | h0
        · have : z = 0 := Int32.toInt_inj.mp (by rw [h0]; rfl)
          subst this
          exact ⟨0, rfl, rfl⟩
        · have : z = 1 := Int32.toInt_inj.mp (by rw [h0]; rfl)
          subst this
          exact ⟨1, rfl, rfl⟩
      · cases h
    · cases h
end SXSTEP

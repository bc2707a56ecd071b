/-! PX: patterns of two sides over the same numbers -/
noncomputable section PX3
abbrev pxPt : Type := sxPt × sxPt
def pxBnd (r : Nat) (q : pxPt) (ls : sxL) (st : List sxV) (O : sxO) (ls' : sxL) (st' : List sxV) (O' : sxO) (B : sxB) : sxTa :=
  sxBndO B O' (sxNwO q.2.2.2.2.2.2.1 (sxSn q.2 (sxSnO q.1.2.2.2.2.2.1 (sxSn q.1 (sxSn0 r))))) (sxBndS B q.2.2.2.2.2.1 st' (sxBndL B ls' q.2.2.2.2.1 (sxBndO B O (sxNwO q.1.2.2.2.2.2.1 (sxSn q.1 (sxSn0 r))) (sxBndS B q.1.2.2.2.2.1 st (sxBndL B ls q.1.2.2.2.1 (sxRg0 r))))))
def pxMtc (r : Nat) (q : pxPt) (ls : sxL) (st : List sxV) (O : sxO) (ls' : sxL) (st' : List sxV) (O' : sxO) (B : sxB) : List sxN :=
  (fun t => (List.range q.1.1).map (fun i => match sxTaG t i with | some n => n | none => (0, 0)))
    (match q.1.2.2.2.2.2.2.2 with
      | [] => pxBnd r q ls st O ls' st' O' B
      | f :: fs => sxBndO B O' (sxSyO q.2.2.2.2.2.2.1) (sxBndO B O (sxSyO q.1.2.2.2.2.2.1) (sxBndF B (f :: fs) (pxBnd r q ls st O ls' st' O' B))))
def pxInc (r : Nat) (θ : List sxN) (q : pxPt) (ls : sxL) (st : List sxV) (O : sxO) (G : sxG) (ls' : sxL) (st' : List sxV) (O' : sxO) (G' : sxG) (B : sxB) : Bool := match sxIncl r θ q.1 ls st B O G with
  | true => sxIncl r θ q.2 ls' st' B O' G'
  | false => false
theorem pxInc_ok {T : Nat} {σ : List Int} {vw vw' : Nat → Nat → Option Value} {B : sxB} {O O' : sxO} {G G' : sxG} {ls ls' : sxL} {st st' : List sxV} {cl cl' : mjL} {cs cs' : List Value} {θ : List sxN} {n n' r : Nat} {q : pxPt} (hB : sxBR T σ B) (hl : sxLR n σ ls cl) (hs : sxSR σ st cs) (hO : sxOR vw σ O) (hG : sxGR vw σ G)
    (hl' : sxLR n' σ ls' cl') (hs' : sxSR σ st' cs') (hO' : sxOR vw' σ O') (hG' : sxGR vw' σ G') (hr0 : 0 < r) (h : pxInc r θ q ls st O G ls' st' O' G' B = true) :
    sxPtR T n vw (sxSb σ θ) q.1 cl cs ∧ sxPtR T n' vw' (sxSb σ θ) q.2 cl' cs' ∧ ∀ i, i < r → (sxSb σ θ)[i]? = some (σ.getD i 0) := by
  unfold pxInc at h
  split at h
  · rename_i h1
    obtain ⟨a, b⟩ := sxIncl_ok hB hl hs hO hG hr0 h1
    exact ⟨a, (sxIncl_ok hB hl' hs' hO' hG' hr0 h).1, b⟩
  · cases h
/-- a side has returned -/
def pxEnR (K : sxKx) (gh : sxGh) (scr : Option (List Int32)) (M : sxMo) (cs : Nat × Nat) (v0 : Nat → Nat → Option Value) (τ : List Int) (p : sxPt) (o : mjO) : Prop :=
  ∃ (cv : Option Value) (H : mjH) (C S : Nat), o = (.inl cv, H, C, S) ∧ sxHR K H ∧ sxPtR (gT gh) K.2.1 (sxVw gh scr K.2.1 H) τ p [] cv.toList ∧ sxKp M v0 (sxVw gh scr K.2.1 H) ∧ C ≤ cs.1 ∧ S ≤ cs.2
/-- a contract of two: methods, frames that each needs, what must stand ahead, what each may write, what each may make, how they end (both return) -/
abbrev pxCt : Type := (Nat × Nat) × (Nat × Nat) × pxPt × (sxMo × sxMo) × ((Nat × Nat) × (Nat × Nat)) × List pxPt
/-- the contract holds wherever P says so of frames and numbers -/
def pxCtW (K : sxKx) (gh : sxGh) (c : pxCt) (P : Nat → Nat → List Int → Prop) : Prop := ∀ (scr scr' : Option (List Int32)) (Y : mjO → mjO → Prop) (d d' : Nat) (τ : List Int) (cl cl' : mjL) (H H' : mjH), P d d' τ → sxHR K H → sxHR K H' →
  sxPtR (gT gh) K.2.1 (sxVw gh scr K.2.1 H) τ c.2.2.1.1 cl [] → sxPtR (gT gh) K.2.1 (sxVw gh scr' K.2.1 H') τ c.2.2.1.2 cl' [] →
  (∀ q ∈ c.2.2.2.2.2, ∀ (o o' : mjO) (τ' : List Int), sxUp τ τ' → pxEnR K gh scr c.2.2.2.1.1 c.2.2.2.2.1.1 (sxVw gh scr K.2.1 H) τ' q.1 o → pxEnR K gh scr' c.2.2.2.1.2 c.2.2.2.2.1.2 (sxVw gh scr' K.2.1 H') τ' q.2 o' → Y o o') →
  mjRn (fun a => mjRn (Y a) scr' [] d' c.1.2 0 cl' [] H' 0 0) scr [] d c.1.1 0 cl [] H 0 0
def pxCtV (K : sxKx) (gh : sxGh) (c : pxCt) : Prop := pxCtW K gh c (fun d d' _ => c.2.1.1 ≤ d ∧ c.2.1.2 ≤ d')
/-- of a family: its measure, its caller's, frames for each unit of the first number -/
abbrev pxWf : Type := Option ((sxMe × sxMe) × (Nat × Nat))
abbrev pxCq : Type := pxCt × pxWf
def pxOk (w : pxWf) (c : pxCt) (τ0 : List Int) (d d' : Nat) (τ : List Int) : Prop := match w with
  | none => c.2.1.1 ≤ d ∧ c.2.1.2 ≤ d'
  | some ((m, b), (l, l')) => sxLt3 (sxMvs τ m) (sxMvs τ0 b) ∧ (c.2.1.1 : Int) + (l : Int) * sxMv τ m.1 ≤ (d : Int) ∧ (c.2.1.2 : Int) + (l' : Int) * sxMv τ m.1 ≤ (d' : Int)
/-- what a caller has to bring -/
def pxWk (w : pxWf) (n n' : Nat) (τ0 : List Int) (d0 d0' : Nat) : Prop := match w with
  | none => True
  | some ((_, b), (l, l')) => sxMin b τ0.length ∧ (n : Int) + (l : Int) * sxMv τ0 b.1 ≤ (d0 : Int) ∧ (n' : Int) + (l' : Int) * sxMv τ0 b.1 ≤ (d0' : Int)
/-- it has fallen, and there are frames left -/
def pxDn (w : pxWf) (B : sxB) (θ : List sxN) (a n a' n' : Nat) : Bool := match w with
  | none => (match Nat.ble a n with | true => Nat.ble a' n' | false => false)
  | some ((m, b), (l, l')) => match sxMlt B θ m b with
    | false => false
    | true => match sxMu B θ m.1 b.1 with
      | none => false
      | some q => match iLe q (-1) with
        | true => (match Nat.ble a (n + l) with | true => Nat.ble a' (n' + l') | false => false)
        | false => match iLe q 0 with
          | true => (match Nat.ble a n with | true => Nat.ble a' n' | false => false)
          | false => false
theorem pxDn_ok {T : Nat} {σ τ0 : List Int} {B : sxB} {θ : List sxN} {w : pxWf} {c : pxCt} {f f' n n' d d' d0 d0' : Nat} (hB : sxBR T σ B) (hu : sxUp τ0 σ) (hw : pxWk w n n' τ0 d0 d0') (hn : n ≤ d0) (hn' : n' ≤ d0') (hd : d + f = d0) (hd' : d' + f' = d0') (h : pxDn w B θ (f + c.2.1.1) n (f' + c.2.1.2) n' = true) : pxOk w c τ0 d d' (sxSb σ θ) := by
  match w, hw, h with
  | none, _, h =>
    unfold pxDn at h
    dsimp only at h
    split at h
    · rename_i h1
      have h1 := Nat.le_of_ble_eq_true h1
      have h2 := Nat.le_of_ble_eq_true h
      exact ⟨by omega, by omega⟩
    · cases h
  | some ((m, b), (l, l')), ⟨⟨⟨i1, i2⟩, ⟨i3, i4⟩, i5, i6⟩, w1, w2⟩, h =>
    unfold pxDn at h
    dsimp only at h
    split at h
    · cases h
    · rename_i hlt
      have hlt := sxMlt_ok hB hlt
      have e : sxMvs σ b = sxMvs τ0 b := by
        unfold sxMvs
        rw [sxMv_up i1 i2 hu, sxMv_up i3 i4 hu, sxMv_up i5 i6 hu]
      rw [e] at hlt
      split at h
      · cases h
      · rename_i q hq
        have hq := sxMu_ok hB hq
        rw [sxMv_up i1 i2 hu] at hq
        have key : ∀ (z l : Int), 0 ≤ l → sxMv (sxSb σ θ) m.1 ≤ z → l * sxMv (sxSb σ θ) m.1 ≤ l * z := fun z l hl hz => Int.mul_le_mul_of_nonneg_left hz hl
        split at h
        · rename_i e1
          have e1 := iLe_ok e1
          split at h
          · rename_i h1
            have h1 := Nat.le_of_ble_eq_true h1
            have h2 := Nat.le_of_ble_eq_true h
            have k1 := key (sxMv τ0 b.1 - 1) l (Int.natCast_nonneg _) (by omega)
            have k2 := key (sxMv τ0 b.1 - 1) l' (Int.natCast_nonneg _) (by omega)
            rw [Int.mul_sub, Int.mul_one] at k1 k2
            exact ⟨hlt, by omega, by omega⟩
          · cases h
        · split at h
          · rename_i e1
            have e1 := iLe_ok e1
            split at h
            · rename_i h1
              have h1 := Nat.le_of_ble_eq_true h1
              have h2 := Nat.le_of_ble_eq_true h
              have k1 := key (sxMv τ0 b.1) l (Int.natCast_nonneg _) (by omega)
              have k2 := key (sxMv τ0 b.1) l' (Int.natCast_nonneg _) (by omega)
              exact ⟨hlt, by omega, by omega⟩
            · cases h
          · cases h
end PX3

/-! SX: contracts, and their use at a call -/
noncomputable section SXCT
/-- method, frames needed, before, what may be written, behind, thrown, cells, slots -/
abbrev sxCt : Type := Nat × Nat × sxPt × sxMo × List sxPt × List (Nat × sxPt) × Nat × Nat
def sxCtV (K : sxKx) (gh : sxGh) (c : sxCt) : Prop := ∀ (scr : Option (List Int32)) (Z : mjO → Prop) (d : Nat) (τ : List Int) (cl : mjL) (H : mjH), c.2.1 ≤ d → sxHR K H → sxPtR (gT gh) K.2.1 (sxVw gh scr K.2.1 H) τ c.2.2.1 cl [] →
  (∀ (cv : Option Value) (H' : mjH) (C S : Nat) (τ' : List Int) (p : sxPt), p ∈ c.2.2.2.2.1 → sxUp τ τ' → sxHR K H' → sxPtR (gT gh) K.2.1 (sxVw gh scr K.2.1 H') τ' p [] cv.toList → sxKp c.2.2.2.1 (sxVw gh scr K.2.1 H) (sxVw gh scr K.2.1 H') → C ≤ c.2.2.2.2.2.2.1 → S ≤ c.2.2.2.2.2.2.2 → Z (.inl cv, H', C, S)) →
  (∀ (E : Nat) (H' : mjH) (C S : Nat) (τ' : List Int) (p : sxPt), (E, p) ∈ c.2.2.2.2.2.1 → sxUp τ τ' → sxHR K H' → sxPtR (gT gh) K.2.1 (sxVw gh scr K.2.1 H') τ' p [] [] → sxKp c.2.2.2.1 (sxVw gh scr K.2.1 H) (sxVw gh scr K.2.1 H') → C ≤ c.2.2.2.2.2.2.1 → S ≤ c.2.2.2.2.2.2.2 → Z (.inr E, H', C, S)) →
  mjRn Z scr [] d c.1 0 cl [] H 0 0
def sxKeys (l_ : sxO) : List (Nat × Nat) := @List.rec _ (fun _ => List (Nat × Nat)) ([]) (fun q _ ih => match q.2.1.1 with
    | 0 => (q.1, q.2.1.2.toNat) :: ih
    | _ + 1 => ih) l_
theorem sxKeys_c {q : Nat × sxN × sxV} {r : sxO} : sxKeys (q :: r) = (match q.2.1.1 with
    | 0 => (q.1, q.2.1.2.toNat) :: sxKeys r
    | _ + 1 => sxKeys r) := rfl
/-- cells that a pattern names are looked at first -/
def sxMatz (K : sxKx) (G : sxG) (l_ : List (Nat × Nat)) : sxB → sxO → Option (sxB × sxO) := @List.rec _ (fun _ => sxB → sxO → Option (sxB × sxO)) (fun B O => some (B, O)) (fun q _ ih B O => match sxOl O q.1 (0, Int.ofNat q.2) with
    | some _ => ih B O
    | none => match sxRd K O G B (fun _ => true) q.1 (0, Int.ofNat q.2) with
      | some [(_, B', O')] => ih B' O'
      | _ => none) l_
theorem sxMatz_c {K : sxKx} {G : sxG} {q : Nat × Nat} {r : List (Nat × Nat)} {B : sxB} {O : sxO} : sxMatz K G (q :: r) B O = (match sxOl O q.1 (0, Int.ofNat q.2) with
    | some _ => sxMatz K G r B O
    | none => match sxRd K O G B (fun _ => true) q.1 (0, Int.ofNat q.2) with
      | some [(_, B', O')] => sxMatz K G r B' O'
      | _ => none) := rfl
/-- cells that a pattern names, and what tables give at its places -/
def sxMat2 (K : sxKx) (G : sxG) (r : Nat) (p : sxPt) (ls : sxL) (st : List sxV) (B : sxB) (O : sxO) : Option (sxB × sxO) := match sxMatz K G (sxKeys p.2.2.2.2.2.1) B O with
  | none => none
  | some (B1, O1) => match p.2.2.2.2.2.2.2 with
    | [] => some (B1, O1)
    | q :: qs => some (sxMatF (q :: qs) (sxBndO B1 O1 p.2.2.2.2.2.1 (sxBndS B1 p.2.2.2.2.1 st (sxBndL B1 ls p.2.2.2.1 (sxRg0 r)))) B1, O1)
def sxTr (θ : List sxN) (a : sxV) : Option sxV := match a with
  | .inl n => some (.inl n)
  | .inr (k, x) => match sxTn θ x with
    | some y => iFc y.2 fun c => some (.inr (k, (y.1, c)))
    | none => none
def sxTrS (θ : List sxN) (l_ : List sxV) : Option (List sxV) := @List.rec _ (fun _ => Option (List sxV)) (some []) (fun a _ ih => match sxTr θ a with
    | some b => (match ih with | some bs => some (b :: bs) | none => none)
    | none => none) l_
theorem sxTrS_c {θ : List sxN} {a : sxV} {as : List sxV} : sxTrS θ (a :: as) = (match sxTr θ a with
    | some b => (match sxTrS θ as with | some bs => some (b :: bs) | none => none)
    | none => none) := rfl
def sxTrO (θ : List sxN) (l_ : sxO) : sxO → Option sxO := @List.rec _ (fun _ => sxO → Option sxO) (fun O => some O) (fun q _ ih O => match sxTn θ q.2.1 with
    | some y => (match sxTr θ q.2.2 with
      | some b => (match ih O with | some O' => iFc y.2 fun c => some ((q.1, (y.1, c), b) :: O') | none => none)
      | none => none)
    | none => none) l_
theorem sxTrO_c {θ : List sxN} {q : Nat × sxN × sxV} {r : sxO} {O : sxO} : sxTrO θ (q :: r) O = (match sxTn θ q.2.1 with
    | some y => (match sxTr θ q.2.2 with
      | some b => (match sxTrO θ r O with | some O' => iFc y.2 fun c => some ((q.1, (y.1, c), b) :: O') | none => none)
      | none => none)
    | none => none) := rfl
def sxTrG (θ : List sxN) (l_ : sxG) : sxG → Option sxG := @List.rec _ (fun _ => sxG → Option sxG) (fun G => some G) (fun q _ ih G => match sxTn θ q.2.1 with
    | some y => (match ih G with | some G' => iFc y.2 fun c => some ((q.1, (y.1, c), q.2.2) :: G') | none => none)
    | none => none) l_
theorem sxTrG_c {θ : List sxN} {q : Nat × sxN × sxP} {r : sxG} {G : sxG} : sxTrG θ (q :: r) G = (match sxTn θ q.2.1 with
    | some y => (match sxTrG θ r G with | some G' => iFc y.2 fun c => some ((q.1, (y.1, c), q.2.2) :: G') | none => none)
    | none => none) := rfl
/-- new symbols behind -/
def sxFrs (pd : sxD) : Nat → Nat → sxB → List sxN → Option (sxB × List sxN)
  | 0, _, B, θ => some (B, θ)
  | m + 1, i, B, θ => match sxIv pd i with
    | some q => bFc B.1 fun n => sxFrs pd m (i + 1) (n + 1, (n, q) :: B.2.1, B.2.2) (θ ++ [(n, 0)])
    | none => none
/-- numbers for symbols, laid out at once -/
def sxThk {α : Type} : List sxN → (List sxN → α) → α
  | [], f => f []
  | q :: r, f => bFc q.1 fun a => iFc q.2 fun b => sxThk r fun r' => f ((a, b) :: r')
theorem sxThk_eq {α : Type} : ∀ (θ : List sxN) (f : List sxN → α), sxThk θ f = f θ
  | [], _ => rfl
  | q :: r, f => by
    unfold sxThk
    rw [bFc_eq, iFc_eq, sxThk_eq r]
def sxAdD (θ : List sxN) (m : Nat) (l_ : sxD) : sxB → sxB := @List.rec _ (fun _ => sxB → sxB) (fun B => B) (fun q _ ih B => match Nat.blt q.1 m with
    | true => (match aNth θ q.1 with
      | some n => sxBk (sxAsm B (0, q.2.1) n 0) fun B1 => sxBk (sxAsm B1 n (0, q.2.2) 0) fun B2 => ih B2
      | none => ih B)
    | false => ih B) l_
theorem sxAdD_c {θ : List sxN} {m : Nat} {q : Nat × Int × Int} {r : sxD} {B : sxB} : sxAdD θ m (q :: r) B = (match Nat.blt q.1 m with
    | true => (match aNth θ q.1 with
      | some n => sxBk (sxAsm B (0, q.2.1) n 0) fun B1 => sxBk (sxAsm B1 n (0, q.2.2) 0) fun B2 => sxAdD θ m r B2
      | none => sxAdD θ m r B)
    | false => sxAdD θ m r B) := rfl
def sxAdE (θ : List sxN) (l_ : sxE) : sxB → sxB := @List.rec _ (fun _ => sxB → sxB) (fun B => B) (fun q _ ih B => bFc q.1 fun i => bFc q.2.1 fun j => match aNth θ i with
    | some n => (match aNth θ j with
      | some k => sxBk (sxAsm B n k q.2.2) fun B1 => ih B1
      | none => ih B)
    | none => ih B) l_
theorem sxAdE_c {θ : List sxN} {q : Nat × Nat × Int} {r : sxE} {B : sxB} : sxAdE θ (q :: r) B = (bFc q.1 fun i => bFc q.2.1 fun j => match aNth θ i with
    | some n => (match aNth θ j with
      | some k => sxBk (sxAsm B n k q.2.2) fun B1 => sxAdE θ r B1
      | none => sxAdE θ r B)
    | none => sxAdE θ r B) := rfl
def sxAdF (θ : List sxN) (l_ : sxF) : sxB → sxB := @List.rec _ (fun _ => sxB → sxB) (fun B => B) (fun q _ ih B => match sxTn θ q.2.1 with
    | some a => (match sxTn θ q.2.2.1 with
      | some b => (match sxTn θ q.2.2.2 with
        | some c => iFc a.2 fun a2 => iFc b.2 fun b2 => iFc c.2 fun c2 => sxBk (sxFa B q.1 (a.1, a2) (b.1, b2) (c.1, c2)) fun B1 => ih B1
        | none => ih B)
      | none => ih B)
    | none => ih B) l_
theorem sxAdF_c {θ : List sxN} {q : Nat × sxN × sxN × sxN} {r : sxF} {B : sxB} : sxAdF θ (q :: r) B = (match sxTn θ q.2.1 with
    | some a => (match sxTn θ q.2.2.1 with
      | some b => (match sxTn θ q.2.2.2 with
        | some c => iFc a.2 fun a2 => iFc b.2 fun b2 => iFc c.2 fun c2 => sxBk (sxFa B q.1 (a.1, a2) (b.1, b2) (c.1, c2)) fun B1 => sxAdF θ r B1
        | none => sxAdF θ r B)
      | none => sxAdF θ r B)
    | none => sxAdF θ r B) := rfl
/-- do these differences contradict what is known? -/
def sxCon (θ : List sxN) (B : sxB) (pe : sxE) : Bool := pe.any (fun q => bFc q.1 fun i => bFc q.2.1 fun j => match aNth θ i with
  | some n => (match aNth θ j with
    | some k => sxLe B k n (-q.2.2 - 1)
    | none => false)
  | none => false)
def sxCnD (θ : List sxN) (B : sxB) (pd : sxD) : Bool := pd.any (fun q => bFc q.1 fun i => match aNth θ i with
  | some n => (match sxRg B n with
    | some r => (match iLe q.2.1 r.2 with
      | false => true
      | true => match iLe r.1 q.2.2 with
        | false => true
        | true => false)
    | none => false)
  | none => false)
def sxTch (M : sxMo) (i : Nat) (x : sxN) : Bool := M.any (fun q => match sxMi q.1 i with
  | true => (match q.2 with
    | 0 => true
    | k + 1 => match x.1 with
      | 0 => iEq x.2 (Int.ofNat k)
      | _ + 1 => true)
  | false => false)
/-- cells that may be written, as bits -/
def sxMkQ (q : Nat × Nat) : Nat := match Nat.blt q.1 1000000 with
  | true => Nat.shiftLeft 1 q.1
  | false => Nat.shiftLeft (Nat.sub (Nat.pow 2 (Nat.sub (q.1 % 1000000 + 1) (q.1 / 1000000))) 1) (q.1 / 1000000)
def sxMsk (M : sxMo) : Nat := @List.rec (Nat × Nat) (fun _ => Nat) 0 (fun q _ ih => Nat.lor (sxMkQ q) ih) M
def sxMkB (m i : Nat) : Bool := Nat.beq (Nat.land 1 (Nat.shiftRight m i)) 0
theorem sxMkQ_ok {q : Nat × Nat} {i : Nat} (h : sxMi q.1 i = true) : (sxMkQ q).testBit i = true := by
  unfold sxMi at h
  unfold sxMkQ
  split at h
  · rename_i e
    rw [e]
    dsimp only
    rw [← Nat.eq_of_beq_eq_true h]
    show (1 <<< q.1).testBit q.1 = true
    rw [Nat.testBit_shiftLeft, Nat.sub_self, decide_eq_true (show q.1 ≥ q.1 from Nat.le_refl _)]
    decide
  · rename_i e
    rw [e]
    dsimp only
    split at h
    · rename_i e2
      have e2 := Nat.le_of_ble_eq_true e2
      have e3 := Nat.le_of_ble_eq_true h
      show ((2 ^ (q.1 % 1000000 + 1 - q.1 / 1000000) - 1) <<< (q.1 / 1000000)).testBit i = true
      rw [Nat.testBit_shiftLeft, Nat.testBit_two_pow_sub_one, decide_eq_true (show i ≥ q.1 / 1000000 from e2), decide_eq_true (show i - q.1 / 1000000 < q.1 % 1000000 + 1 - q.1 / 1000000 by omega)]
      rfl
    · cases h
theorem sxMsk_no {q : Nat × Nat} {i : Nat} : ∀ {M : sxMo}, q ∈ M → sxMi q.1 i = true → sxMkB (sxMsk M) i = false := by
  have key : ∀ {M : sxMo}, q ∈ M → sxMi q.1 i = true → (sxMsk M).testBit i = true := by
    intro M
    induction M with
    | nil => intro h; cases h
    | cons a r ih =>
      intro h hi
      show (sxMkQ a ||| sxMsk r).testBit i = true
      rw [Nat.testBit_or]
      rcases List.mem_cons.mp h with e | h
      · rw [← e, sxMkQ_ok hi, Bool.true_or]
      · rw [ih h hi, Bool.or_true]
  intro M h hi
  have h1 := key h hi
  unfold Nat.testBit at h1
  unfold sxMkB
  cases e : Nat.beq (Nat.land 1 (Nat.shiftRight (sxMsk M) i)) 0 with
  | false => rfl
  | true =>
    have e : (1 &&& (sxMsk M >>> i)) = 0 := Nat.eq_of_beq_eq_true e
    rw [e] at h1
    exact absurd h1 (by decide)
def sxKlM (m : Nat) (M : sxMo) (l_ : sxO) : sxO := @List.rec _ (fun _ => sxO) [] (fun q _ ih => @Bool.rec (fun _ => sxO) (@Bool.rec (fun _ => sxO) (q :: ih) ih (sxTch M q.1 q.2.1)) (q :: ih) (sxMkB m q.1)) l_
theorem sxKlM_c {m : Nat} {M : sxMo} {q : Nat × sxN × sxV} {r : sxO} : sxKlM m M (q :: r) = (match sxMkB m q.1 with
    | true => q :: sxKlM m M r
    | false => match sxTch M q.1 q.2.1 with
      | true => sxKlM m M r
      | false => q :: sxKlM m M r) := by
  show @Bool.rec (fun _ => sxO) (@Bool.rec (fun _ => sxO) (q :: sxKlM m M r) (sxKlM m M r) (sxTch M q.1 q.2.1)) (q :: sxKlM m M r) (sxMkB m q.1) = _
  cases sxMkB m q.1 <;> cases sxTch M q.1 q.2.1 <;> rfl
def sxKlO (M : sxMo) (O : sxO) : sxO := bFc (sxMsk M) fun m => sxKlM m M O
def sxKlG (M : sxMo) (l_ : sxG) : sxG := @List.rec _ (fun _ => sxG) ([]) (fun q _ ih => match M.any (fun m => sxMi m.1 q.1) with | true => ih | false => q :: ih) l_
theorem sxKlG_c {M : sxMo} {q : Nat × sxN × sxP} {r : sxG} : sxKlG M (q :: r) = (match M.any (fun m => sxMi m.1 q.1) with | true => sxKlG M r | false => q :: sxKlG M r) := rfl
/-- at a glance: numbers and cells named in a pattern that can't be these -/
def sxQd (pd : sxD) (B : sxB) (x y : sxN) : Bool := match sxIv pd x.1 with
  | none => true
  | some q => match sxRg B y with
    | none => true
    | some r => match iLe r.1 (q.2 + x.2) with
      | false => false
      | true => iLe (q.1 + x.2) r.2
def sxQv (pd : sxD) (B : sxB) (a b : sxV) : Bool := match a with
  | .inl m => (match b with | .inl n => Nat.beq m n | .inr _ => false)
  | .inr (_, x) => match b with
    | .inl _ => false
    | .inr (_, y) => match Nat.beq x.1 0 with
      | false => bFc x.1 fun s => sxQd pd B (s, x.2) y
      | true => match sxNm B y with
        | z => match Nat.beq z.1 0 with
          | true => iEq x.2 z.2
          | false => true
def sxQo (pd : sxD) (B : sxB) (O : sxO) (p : sxO) : Bool := List.rec true (fun q _ ih => match Nat.beq q.2.1.1 0 with
  | false => ih
  | true => match sxOl O q.1 q.2.1 with
    | none => ih
    | some v => match sxQv pd B q.2.2 v with
      | true => ih
      | false => false) p
def sxQl (pd : sxD) (B : sxB) (ls : sxL) (p : sxL) : Bool := List.rec true (fun q _ ih => match sxGt ls q.1 with
  | none => ih
  | some v => match sxQv pd B q.2 v with
    | true => ih
    | false => false) p
def sxQk2 {α : Type} (pd : sxD) (p : sxPt) (ls : sxL) (O : sxO) (B : sxB) (k : Unit → Option α) : Option α := match sxQl pd B ls p.2.2.2.1 with
  | false => none
  | true => match sxQo pd B O p.2.2.2.2.2.1 with
    | false => none
    | true => k ()
theorem sxQk2_some {α : Type} {pd : sxD} {p : sxPt} {ls : sxL} {O : sxO} {B : sxB} {k : Unit → Option α} {x : α} (h : sxQk2 pd p ls O B k = some x) : k () = some x := by
  unfold sxQk2 at h
  split at h
  · cases h
  · split at h
    · cases h
    · exact h
/-- what stands behind a call -/
def sxBh (c : sxCt) (θ : List sxN) (B : sxB) (O : sxO) (G : sxG) (p : sxPt) : Option (List (List sxV × sxB × sxO × sxG)) := match Nat.ble c.2.2.1.1 p.1 with
  | false => none
  | true => match sxFrs p.2.1 (p.1 - c.2.2.1.1) c.2.2.1.1 B θ with
    | none => none
    | some (B1, θ1) => sxThk θ1 fun θ1 => sxBk (sxAdD θ1 c.2.2.1.1 p.2.1 B1) fun Bd => match sxCnD θ1 Bd p.2.1 with
      | true => some []
      | false => match sxCon θ1 Bd p.2.2.1 with
      | true => some []
      | false => sxBk (sxAdE θ1 p.2.2.1 Bd) fun B2 => match θ1.any (fun m => sxBad B2 m.1) with
      | true => some []
      | false => match sxTrS θ1 p.2.2.2.2.1 with
        | some vs => (match sxTrO θ1 p.2.2.2.2.2.1 (sxKlO c.2.2.2.1 O) with
          | some O2 => (match sxTrG θ1 p.2.2.2.2.2.2.1 (sxKlG c.2.2.2.1 G) with
            | some G2 => sxBk (sxAdF θ1 p.2.2.2.2.2.2.2 B2) fun B3 => some [(vs, B3, O2, G2)]
            | none => none)
          | none => none)
        | none => none
def sxMs1 (m q : Nat) : Bool := match Nat.beq m q with
  | true => true
  | false => match Nat.blt m 1000000 with
    | true => false
    | false => match Nat.blt q 1000000 with
      | true => sxMi m q
      | false => match Nat.ble (m / 1000000) (q / 1000000) with
        | true => Nat.ble (q % 1000000) (m % 1000000)
        | false => false
theorem sxMs1_ok {m q i : Nat} (h : sxMs1 m q = true) (hq : sxMi q i = true) : sxMi m i = true := by
  unfold sxMs1 at h
  split at h
  · rename_i e
    rw [Nat.eq_of_beq_eq_true e]
    exact hq
  · split at h
    · cases h
    · rename_i e1
      split at h
      · rename_i e2
        unfold sxMi at hq
        rw [e2] at hq
        rw [← Nat.eq_of_beq_eq_true hq]
        exact h
      · rename_i e2
        unfold sxMi at hq ⊢
        rw [e2] at hq
        rw [e1]
        dsimp only at hq ⊢
        split at h
        · rename_i e3
          have e3 := Nat.le_of_ble_eq_true e3
          have e4 := Nat.le_of_ble_eq_true h
          split at hq
          · rename_i e5
            have e5 := Nat.le_of_ble_eq_true e5
            have e6 := Nat.le_of_ble_eq_true hq
            rw [Nat.ble_eq.mpr (Nat.le_trans e3 e5)]
            exact Nat.ble_eq.mpr (Nat.le_trans e6 e4)
          · cases hq
        · cases h
def sxMsb (M1 M : sxMo) : Bool := M1.all (fun q => M.any (fun m => match sxMs1 m.1 q.1 with
  | true => (match m.2 with
    | 0 => true
    | k + 1 => match q.2 with
      | 0 => false
      | j + 1 => Nat.beq k j)
  | false => false))
def sxBhR (c : sxCt) (θ : List sxN) (B : sxB) (O : sxO) (G : sxG) (k pc : Nat) (ls : sxL) (rest : List sxV) (F : List sxFm) (C S : Nat) (l_ : List sxPt) : Option (List sxE1) := @List.rec _ (fun _ => Option (List sxE1)) (some []) (fun p _ ih => match sxBh c θ B O G p with
    | none => none
    | some l => match ih with
      | none => none
      | some L => some (l.map (fun q => .inl (F, k, pc + 3, ls, q.1 ++ rest, q.2.1, q.2.2.1, q.2.2.2, C + c.2.2.2.2.2.2.1, S + c.2.2.2.2.2.2.2)) ++ L)) l_
theorem sxBhR_c {c : sxCt} {θ : List sxN} {B : sxB} {O : sxO} {G : sxG} {k pc : Nat} {ls : sxL} {rest : List sxV} {F : List sxFm} {C S : Nat} {p : sxPt} {ps : List sxPt} : sxBhR c θ B O G k pc ls rest F C S (p :: ps) = (match sxBh c θ B O G p with
    | none => none
    | some l => match sxBhR c θ B O G k pc ls rest F C S ps with
      | none => none
      | some L => some (l.map (fun q => .inl (F, k, pc + 3, ls, q.1 ++ rest, q.2.1, q.2.2.1, q.2.2.2, C + c.2.2.2.2.2.2.1, S + c.2.2.2.2.2.2.2)) ++ L)) := rfl
def sxThL (F : List sxFm) (E : Nat) (C S : Nat) (l_ : List (List sxV × sxB × sxO × sxG)) : Option (List sxE1) := @List.rec _ (fun _ => Option (List sxE1)) (some []) (fun q _ ih => match sxThrow F E q.2.1 q.2.2.1 q.2.2.2 C S with
    | none => none
    | some e => match ih with
      | none => none
      | some L => some (e :: L)) l_
theorem sxThL_c {F : List sxFm} {E : Nat} {C S : Nat} {q : List sxV × sxB × sxO × sxG} {r : List (List sxV × sxB × sxO × sxG)} : sxThL F E C S (q :: r) = (match sxThrow F E q.2.1 q.2.2.1 q.2.2.2 C S with
    | none => none
    | some e => match sxThL F E C S r with
      | none => none
      | some L => some (e :: L)) := rfl
def sxBhT (c : sxCt) (θ : List sxN) (B : sxB) (O : sxO) (G : sxG) (F : List sxFm) (C S : Nat) (l_ : List (Nat × sxPt)) : Option (List sxE1) := @List.rec _ (fun _ => Option (List sxE1)) (some []) (fun p _ ih => match sxBh c θ B O G p.2 with
    | none => none
    | some l => match sxThL F p.1 (C + c.2.2.2.2.2.2.1) (S + c.2.2.2.2.2.2.2) l with
      | none => none
      | some L1 => match ih with
        | none => none
        | some L => some (L1 ++ L)) l_
theorem sxBhT_c {c : sxCt} {θ : List sxN} {B : sxB} {O : sxO} {G : sxG} {F : List sxFm} {C S : Nat} {p : Nat × sxPt} {ps : List (Nat × sxPt)} : sxBhT c θ B O G F C S (p :: ps) = (match sxBh c θ B O G p.2 with
    | none => none
    | some l => match sxThL F p.1 (C + c.2.2.2.2.2.2.1) (S + c.2.2.2.2.2.2.2) l with
      | none => none
      | some L1 => match sxBhT c θ B O G F C S ps with
        | none => none
        | some L => some (L1 ++ L)) := rfl
def sxApp (X : sxCx) (c : sxCt) (s : sxS) : Option (List sxE1) := match s with
  | ((k', pc', ls', rest) :: F', k, 0, ls, [], B, O, G, C, S) => (match Nat.beq k c.1 with
    | false => none
    | true => match Nat.ble (F'.length + 1 + c.2.1) X.2.2.1 with
      | false => none
      | true => match sxMsb c.2.2.2.1 X.2.1 with
        | false => none
        | true => match sxQk2 c.2.2.1.2.1 c.2.2.1 ls O B (fun _ => sxMat2 X.1 G 1 c.2.2.1 ls [] B O) with
          | none => none
          | some (B1, O1) => sxThk (sxMtc 1 c.2.2.1 ls [] B1 O1) fun θ => match sxIncl 1 θ c.2.2.1 ls [] B1 O1 G with
            | false => none
            | true => match sxBhR c θ B1 O1 G k' pc' ls' rest F' C S c.2.2.2.2.1 with
              | none => none
              | some L1 => match sxBhT c θ B1 O1 G ((k', pc', ls', rest) :: F') C S c.2.2.2.2.2.1 with
                | none => none
                | some L2 => some (L1 ++ L2))
  | _ => none
/-- from here on all goes well -/
def sxAR (X : sxCx) (gh : sxGh) (scr : Option (List Int32)) (v0 : Nat → Nat → Option Value) (d0 : Nat) (Z : mjO → Prop) (τ : List Int) : sxE1 → Prop
  | .inl s => ∀ (σ : List Int) (cF : List cFr) (d : Nat) (cl : mjL) (cs : List Value) (H : mjH) (C S : Nat), sxUp τ σ → sxRel X gh scr v0 d0 σ s cF d cl cs H C S → mjRn Z scr cF d s.2.1 s.2.2.1 cl cs H C S
  | .inr (.inl (v, B, O, G, C0, S0)) => ∀ (σ : List Int) (cv : Option Value) (H : mjH) (C S : Nat), sxUp τ σ → (match v, cv with | none, none => True | some a, some w => sxVR σ a w | _, _ => False) → sxHS X gh scr v0 σ B O G H → C ≤ C0 → S ≤ S0 → Z (.inl cv, H, C, S)
  | .inr (.inr (E, B, O, G, C0, S0)) => ∀ (σ : List Int) (H : mjH) (C S : Nat), sxUp τ σ → sxHS X gh scr v0 σ B O G H → C ≤ C0 → S ≤ S0 → Z (.inr E, H, C, S)
variable {T : Nat} {X : sxCx} {gh : sxGh} {scr : Option (List Int32)} {v0 : Nat → Nat → Option Value} {d0 : Nat} {Z : mjO → Prop} {τ σ σ' : List Int} {F : List sxFm} {cF : List cFr} {k pc d C S C0 S0 : Nat} {ls : sxL} {st : List sxV} {B B' : sxB} {O O' : sxO} {G G' : sxG} {cl : mjL} {cs : List Value} {H H' : mjH} {L : List sxE1} {c : sxCt} {θ : List sxN}
theorem sxAR.of {P : Prop} {e : sxE1} (ha : sxAR X gh scr v0 d0 Z τ e) (hu : sxUp τ σ) (hg : sxGd1 X gh scr v0 d0 Z σ P e) : P := by
  match e, ha, hg with
  | .inl s, ha, hg => obtain ⟨a1, a2, a3, a4, a5, a6, a7, a8, h1, h2, h3⟩ := hg; exact h3 (ha a1 a2 a3 a4 a5 a6 a7 a8 (hu.tr h1) h2)
  | .inr (.inl (v, B, O, G, C0, S0)), ha, hg => obtain ⟨a1, a2, a3, a4, a5, h1, h2, h3, h4, h5, h6⟩ := hg; exact h6 (ha a1 a2 a3 a4 a5 (hu.tr h1) h2 h3 h4 h5)
  | .inr (.inr (E, B, O, G, C0, S0)), ha, hg => obtain ⟨a1, a2, a3, a4, h1, h2, h3, h4, h5⟩ := hg; exact h5 (ha a1 a2 a3 a4 (hu.tr h1) h2 h3 h4)
theorem sxMatz_ok : ∀ {q : List (Nat × Nat)} {σ : List Int} {B : sxB} {O : sxO}, sxMatz X.1 G q B O = some (B', O') → sxHS X gh scr v0 σ B O G H → ∃ σ', sxUp σ σ' ∧ sxHS X gh scr v0 σ' B' O' G H
  | [], σ, B, O, h, hH => by cases h; exact ⟨σ, sxUp.rf, hH⟩
  | q :: r, σ, B, O, h, hH => by
    rw [sxMatz_c] at h
    split at h
    · exact sxMatz_ok h hH
    · split at h
      · rename_i v B2 O2 hr
        obtain ⟨t, vs, w, e1, e2, e3, e4, e, he, σ1, f1, f2, f3, f4⟩ := sxRd_ok hH.1 hH.2.1 hH.2.2.1 hH.2.2.2.1 hr (X := (q.2 : Int)) ⟨0, hH.1.1.2, by simp⟩
        rw [List.mem_singleton] at he
        subst he
        obtain ⟨σ', g1, g2⟩ := sxMatz_ok h (⟨f3, hH.2.1, f4, hH.2.2.2.1.up f1, hH.2.2.2.2.1, hH.2.2.2.2.2.up f1⟩ : sxHS X gh scr v0 σ1 B2 O2 G H)
        exact ⟨σ', f1.tr g1, g2⟩
      · cases h
theorem sxMat2_ok {r : Nat} {p : sxPt} (h : sxMat2 X.1 G r p ls st B O = some (B', O')) (hH : sxHS X gh scr v0 σ B O G H) : ∃ σ', sxUp σ σ' ∧ sxHS X gh scr v0 σ' B' O' G H := by
  unfold sxMat2 at h
  split at h
  · cases h
  · rename_i B1 O1 hm
    obtain ⟨σ1, u1, hH1⟩ := sxMatz_ok hm hH
    split at h
    · cases h
      exact ⟨σ1, u1, hH1⟩
    · cases h
      obtain ⟨σ2, u2, h2⟩ := sxMatF_ok hH1.1
      exact ⟨σ2, u1.tr u2, hH1.to u2 h2⟩
/-- the symbols of a pattern stand for these numbers -/
def sxTh (σ : List Int) (θ : List sxN) (τ : List Int) : Prop := ∀ i m, aNth θ i = some m → ∃ z, sxNR σ m z ∧ τ[i]? = some z
theorem sxTn_th {x y : sxN} {z : Int} (hθ : sxTh σ θ τ) (h : sxTn θ x = some y) (hz : sxNR τ x z) : sxNR σ y z := by
  unfold sxTn at h
  rw [bFc_eq] at h
  split at h
  · rename_i m hm
    cases h
    obtain ⟨w, ⟨a, e1, e2⟩, e3⟩ := hθ _ _ hm
    obtain ⟨b, e4, e5⟩ := hz
    cases Option.some.inj (e3.symm.trans e4)
    exact ⟨a, e1, by dsimp only; omega⟩
  · cases h
theorem sxTr_th {a b : sxV} {v : Value} (hθ : sxTh σ θ τ) (h : sxTr θ a = some b) (hv : sxVR τ a v) : sxVR σ b v := by
  unfold sxTr at h
  split at h
  · cases h
    exact hv
  · rename_i k x
    split at h
    · rename_i y hy
      rw [iFc_eq] at h
      cases h
      cases k
      · obtain ⟨w, rfl, hw⟩ := hv
        exact ⟨w, rfl, sxTn_th hθ hy hw⟩
      · obtain ⟨w, rfl, hw⟩ := hv
        exact ⟨w, rfl, sxTn_th hθ hy hw⟩
    · cases h
theorem sxTrS_th (hθ : sxTh σ θ τ) : ∀ {as bs : List sxV} {vs : List Value}, sxTrS θ as = some bs → sxSR τ as vs → sxSR σ bs vs
  | [], bs, vs, h, hs => by cases h; cases sxSR_n hs; exact trivial
  | a :: as, bs, vs, h, hs => by
    obtain ⟨v, vs', rfl, h1, h2⟩ := sxSR_c hs
    rw [sxTrS_c] at h
    split at h
    · rename_i b hb
      split at h
      · rename_i bs' hbs
        cases h
        exact ⟨sxTr_th hθ hb h1, sxTrS_th hθ hbs h2⟩
      · cases h
    · cases h
theorem sxTrO_th {vw : Nat → Nat → Option Value} (hθ : sxTh σ θ τ) : ∀ {po O O' : sxO}, sxTrO θ po O = some O' → sxOR vw τ po → sxOR vw σ O → sxOR vw σ O'
  | [], O, O', h, _, hO => by cases h; exact hO
  | q :: r, O, O', h, hp, hO => by
    rw [sxTrO_c] at h
    split at h
    · rename_i y hy
      split at h
      · rename_i b hb
        split at h
        · rename_i O2 hO2
          rw [iFc_eq] at h
          cases h
          intro q1 hq1
          rcases List.mem_cons.mp hq1 with rfl | hq1
          · obtain ⟨z, v, h1, h2, h3, h4⟩ := hp q List.mem_cons_self
            exact ⟨z, v, sxTn_th hθ hy h1, h2, h3, sxTr_th hθ hb h4⟩
          · exact sxTrO_th hθ hO2 (fun q hq => hp q (List.mem_cons_of_mem _ hq)) hO q1 hq1
        · cases h
      · cases h
    · cases h
theorem sxTrG_th {vw : Nat → Nat → Option Value} (hθ : sxTh σ θ τ) : ∀ {pg G G' : sxG}, sxTrG θ pg G = some G' → sxGR vw τ pg → sxGR vw σ G → sxGR vw σ G'
  | [], G, G', h, _, hG => by cases h; exact hG
  | q :: r, G, G', h, hp, hG => by
    rw [sxTrG_c] at h
    split at h
    · rename_i y hy
      split at h
      · rename_i G2 hG2
        rw [iFc_eq] at h
        cases h
        intro q1 hq1
        rcases List.mem_cons.mp hq1 with rfl | hq1
        · obtain ⟨z, h1, h2⟩ := hp q List.mem_cons_self
          exact ⟨z, sxTn_th hθ hy h1, h2⟩
        · exact sxTrG_th hθ hG2 (fun q hq => hp q (List.mem_cons_of_mem _ hq)) hG q1 hq1
      · cases h
    · cases h
theorem sxKlM_ok {vw vw' : Nat → Nat → Option Value} {M : sxMo} (hB : sxBR T σ B) (hk : sxKp M vw vw') : ∀ {O : sxO}, sxOR vw σ O → sxOR vw' σ (sxKlM (sxMsk M) M O)
  | [], _ => fun q hq => by cases hq
  | q :: r, hO => by
    have hr := sxKlM_ok hB hk (O := r) (fun q hq => hO q (List.mem_cons_of_mem _ hq))
    have keep : sxTch M q.1 q.2.1 = false → sxOR vw' σ (q :: sxKlM (sxMsk M) M r) := by
      intro ht
      intro q1 hq1
      rcases List.mem_cons.mp hq1 with rfl | hq1
      · obtain ⟨z, v, h1, h2, h3, h4⟩ := hO q1 List.mem_cons_self
        refine ⟨z, v, h1, h2, ?_, h4⟩
        rw [hk q1.1 z.toNat ?_]
        · exact h3
        · cases hm : sxMd M q1.1 z.toNat with
          | false => rfl
          | true =>
            exfalso
            obtain ⟨m, f1, f2⟩ := List.any_eq_true.mp hm
            have ht' : sxTch M q1.1 q1.2.1 = true := by
              refine List.any_eq_true.mpr ⟨m, f1, ?_⟩
              split at f2
              · rename_i e
                rw [e]
                dsimp only
                split at f2
                · rename_i e2
                  rw [e2]
                · rename_i j e2
                  rw [e2]
                  dsimp only
                  have f2 := Nat.eq_of_beq_eq_true f2
                  obtain ⟨i0, ⟨s0, c0⟩, a0⟩ := q1
                  dsimp only at h1 ⊢
                  split
                  · have := sxN0 hB h1
                    have : c0 = Int.ofNat j := by simp only [Int.ofNat_eq_natCast]; omega
                    rw [this]
                    exact iEq_self _
                  · rfl
              · cases f2
            rw [ht] at ht'
            cases ht'
      · exact hr q1 hq1
    rw [sxKlM_c]
    split
    · rename_i hm
      refine keep ?_
      cases ht : sxTch M q.1 q.2.1 with
      | false => rfl
      | true =>
        obtain ⟨m, f1, f2⟩ := List.any_eq_true.mp ht
        split at f2
        · rename_i e
          rw [sxMsk_no f1 e] at hm
          cases hm
        · cases f2
    · split
      · exact hr
      · rename_i ht
        exact keep ht
theorem sxKlO_ok {vw vw' : Nat → Nat → Option Value} {M : sxMo} (hB : sxBR T σ B) (hk : sxKp M vw vw') {O : sxO} (hO : sxOR vw σ O) : sxOR vw' σ (sxKlO M O) := by
  unfold sxKlO
  rw [bFc_eq]
  exact sxKlM_ok hB hk hO
theorem sxKlG_ok {vw vw' : Nat → Nat → Option Value} {M : sxMo} (hk : sxKp M vw vw') : ∀ {G : sxG}, sxGR vw σ G → sxGR vw' σ (sxKlG M G)
  | [], _ => fun q hq => by cases hq
  | q :: r, hG => by
    have hr := sxKlG_ok hk (G := r) (fun q hq => hG q (List.mem_cons_of_mem _ hq))
    rw [sxKlG_c]
    split
    · exact hr
    · rename_i ht
      intro q1 hq1
      rcases List.mem_cons.mp hq1 with rfl | hq1
      · obtain ⟨z, h1, h2⟩ := hG q1 List.mem_cons_self
        refine ⟨z, h1, fun j v hj hv => h2 j v hj ?_⟩
        rw [← hk q1.1 j ?_]
        · exact hv
        · cases hm : sxMd M q1.1 j with
          | false => rfl
          | true =>
            exfalso
            obtain ⟨m, f1, f2⟩ := List.any_eq_true.mp hm
            have : M.any (fun m => sxMi m.1 q1.1) = true := by
              refine List.any_eq_true.mpr ⟨m, f1, ?_⟩
              split at f2
              · rename_i e; exact e
              · cases f2
            rw [ht] at this
            cases this
      · exact hr q1 hq1
theorem sxFrs_ok {pd : sxD} {τ' : List Int} (hpd : ∀ q ∈ pd, sxIn τ' q) : ∀ {m i : Nat} {σ : List Int} {B B1 : sxB} {θ θ1 : List sxN}, sxFrs pd m i B θ = some (B1, θ1) → sxBR T σ B → sxTh σ θ τ' → θ.length = i → ∃ σ', sxUp σ σ' ∧ sxBR T σ' B1 ∧ sxTh σ' θ1 τ' ∧ θ1.length = i + m
  | 0, i, σ, B, B1, θ, θ1, h, hB, hθ, hl => by cases h; exact ⟨σ, sxUp.rf, hB, hθ, hl⟩
  | m + 1, i, σ, B, B1, θ, θ1, h, hB, hθ, hl => by
    unfold sxFrs at h
    split at h
    · rename_i q hq
      rw [bFc_eq] at h
      obtain ⟨z, h1, h2, h3⟩ := hpd _ (sxIv_mem hq)
      have hu := sxUp.app σ [z]
      have hlz : (σ ++ [z])[B.1]? = some z := by
        rw [← hB.1.1, List.getElem?_append_right (Nat.le_refl _), Nat.sub_self]
        rfl
      have hB' : sxBR T (σ ++ [z]) (B.1 + 1, (B.1, q) :: B.2.1, B.2.2) := by
        refine ⟨⟨by rw [List.length_append, hB.1.1]; rfl, hu _ _ hB.1.2⟩, fun q1 hq1 => ?_, fun q hq => (hB.2.2.1 q hq).up hu, fun q hq => (hB.2.2.2.1 q hq).up hu, fun q hq => (hB.2.2.2.2 q hq).up hu⟩
        rcases List.mem_cons.mp hq1 with rfl | hq1
        · exact ⟨z, hlz, h2, h3⟩
        · exact (hB.2.1 q1 hq1).up hu
      have hθ' : sxTh (σ ++ [z]) (θ ++ [(B.1, 0)]) τ' := by
        intro j m9 hj
        rw [aNth_eq] at hj
        by_cases hjl : j < θ.length
        · rw [List.getElem?_append_left hjl, ← aNth_eq] at hj
          obtain ⟨w, g1, g2⟩ := hθ j m9 hj
          exact ⟨w, g1.up hu, g2⟩
        · rw [List.getElem?_append_right (by omega)] at hj
          have hj0 : j - θ.length = 0 := by
            have := (List.getElem?_eq_some_iff.mp hj).1
            simpa using this
          rw [hj0] at hj
          cases hj
          refine ⟨z, ⟨z, hlz, by simp⟩, ?_⟩
          rw [show j = i by omega]
          exact h1
      obtain ⟨σ', g1, g2, g3, g4⟩ := sxFrs_ok hpd h hB' hθ' (by rw [List.length_append, hl]; rfl)
      exact ⟨σ', hu.tr g1, g2, g3, by omega⟩
    · cases h
theorem sxAdD_ok {m : Nat} (hθ : sxTh σ θ τ) : ∀ {pd : sxD} {B : sxB}, (∀ q ∈ pd, sxIn τ q) → sxBR T σ B → sxBR T σ (sxAdD θ m pd B)
  | [], _, _, hB => hB
  | q :: r, B, hpd, hB => by
    have hr : ∀ q ∈ r, sxIn τ q := fun q hq => hpd q (List.mem_cons_of_mem _ hq)
    rw [sxAdD_c]
    split
    · split
      · rename_i n hn
        obtain ⟨z, h1, h2⟩ := hθ _ _ hn
        obtain ⟨w, h3, h4, h5⟩ := hpd q List.mem_cons_self
        cases Option.some.inj (h2.symm.trans h3)
        have b1 := sxAsm_ok (x := (0, q.2.1)) (c := 0) (X := q.2.1) hB ⟨0, hB.1.2, by simp⟩ h1 (by omega)
        exact sxAdD_ok hθ hr (sxAsm_ok (y := (0, q.2.2)) (c := 0) (Y := q.2.2) b1 h1 ⟨0, hB.1.2, by simp⟩ (by omega))
      · exact sxAdD_ok hθ hr hB
    · exact sxAdD_ok hθ hr hB
theorem sxCnD_no {pd : sxD} (hB : sxBR T σ B) (hθ : sxTh σ θ τ) (hpd : ∀ q ∈ pd, sxIn τ q) : sxCnD θ B pd = false := by
  cases h : sxCnD θ B pd with
  | false => rfl
  | true =>
    obtain ⟨q, h1, h2⟩ := List.any_eq_true.mp h
    simp only [bFc_eq] at h2
    split at h2
    · rename_i n hn
      split at h2
      · rename_i r hr
        obtain ⟨a, e1, e2⟩ := hθ _ _ hn
        obtain ⟨b, g1, g2, g3⟩ := hpd q h1
        cases Option.some.inj (e2.symm.trans g1)
        have := sxRg_ok hB hr e1
        split at h2
        · rename_i c
          have := iLe_no c
          omega
        · split at h2
          · rename_i c
            have := iLe_no c
            omega
          · cases h2
      · cases h2
    · cases h2
theorem sxCon_no {pe : sxE} (hB : sxBR T σ B) (hθ : sxTh σ θ τ) (hpe : ∀ q ∈ pe, sxDf τ q) : sxCon θ B pe = false := by
  cases h : sxCon θ B pe with
  | false => rfl
  | true =>
    obtain ⟨q, h1, h2⟩ := List.any_eq_true.mp h
    simp only [bFc_eq] at h2
    split at h2
    · rename_i n hn
      split at h2
      · rename_i k hk
        obtain ⟨a, e1, e2⟩ := hθ _ _ hn
        obtain ⟨b, e3, e4⟩ := hθ _ _ hk
        obtain ⟨a', b', g1, g2, g3⟩ := hpe q h1
        cases Option.some.inj (e2.symm.trans g1)
        cases Option.some.inj (e4.symm.trans g2)
        have := sxLe_ok hB h2 e3 e1
        omega
      · cases h2
    · cases h2
theorem sxAdE_ok (hθ : sxTh σ θ τ) : ∀ {pe : sxE} {B : sxB}, (∀ q ∈ pe, sxDf τ q) → sxBR T σ B → sxBR T σ (sxAdE θ pe B)
  | [], _, _, hB => hB
  | q :: r, B, hpe, hB => by
    have hr : ∀ q ∈ r, sxDf τ q := fun q hq => hpe q (List.mem_cons_of_mem _ hq)
    rw [sxAdE_c]
    rw [bFc_eq, bFc_eq]
    split
    · rename_i n hn
      split
      · rename_i k hk
        obtain ⟨a, h1, h2⟩ := hθ _ _ hn
        obtain ⟨b, h3, h4⟩ := hθ _ _ hk
        obtain ⟨a', b', g1, g2, g3⟩ := hpe q List.mem_cons_self
        cases Option.some.inj (h2.symm.trans g1)
        cases Option.some.inj (h4.symm.trans g2)
        exact sxAdE_ok hθ hr (sxAsm_ok hB h1 h3 g3)
      · exact sxAdE_ok hθ hr hB
    · exact sxAdE_ok hθ hr hB
theorem sxAdF_ok (hθ : sxTh σ θ τ) : ∀ {pf : sxF} {B : sxB}, (∀ q ∈ pf, sxFt T τ q) → sxBR T σ B → sxBR T σ (sxAdF θ pf B)
  | [], _, _, hB => hB
  | q :: r, B, hpf, hB => by
    have hr : ∀ q ∈ r, sxFt T τ q := fun q hq => hpf q (List.mem_cons_of_mem _ hq)
    rw [sxAdF_c]
    split
    · rename_i a ha
      split
      · rename_i b hb
        split
        · rename_i c hc
          obtain ⟨x, y, z, h1, h2, h3, h4⟩ := hpf q List.mem_cons_self
          simp only [iFc_eq]
          exact sxAdF_ok hθ hr (sxFa_ok hB (sxTn_th hθ ha h1) (sxTn_th hθ hb h2) (by rw [h4]; exact sxTn_th hθ hc h3))
        · exact sxAdF_ok hθ hr hB
      · exact sxAdF_ok hθ hr hB
    · exact sxAdF_ok hθ hr hB
end SXCT

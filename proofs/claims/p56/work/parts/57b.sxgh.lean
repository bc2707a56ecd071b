/-! SX: the ghost: which of its places a writing may change, what is known of them behind it, what may be said of them at any time. Its places: 0 the height of the codes read for the row that is being read; 1 all rows read are well formed; 2 all rows that stand are; 3 models are small where atoms are few; 4 how far the place in the text is ahead of the codes -/
noncomputable section SXGH
/-- a number that stands there -/
def sxNum (B : sxB) (O : sxO) (i j : Nat) : Option Int := match sxOl O i (0, Int.ofNat j) with
  | some (.inr (false, n)) => (match sxNm B n with
    | (0, v) => some v
    | (_ + 1, _) => none)
  | _ => none
/-- is the number that stands there known, and at most this? -/
def sxLim (B : sxB) (O : sxO) (j : Nat) (m : Nat) : Bool := match sxNum B O 78 j with
  | some (.ofNat v) => Nat.ble v m
  | _ => false
def sxXi (x : sxN) (f : Nat → List Nat) (d : List Nat) : List Nat := match x with
  | (0, .ofNat j) => f j
  | _ => d
/-- behind the text? -/
def sxPast (B : sxB) (x : sxN) : Bool := match B.2.2.2.2 with
  | [] => false
  | _ :: _ => match sxG1 B 40 (0, 0) with
    | some n => sxLe B n x 0
    | none => false
theorem sxPast_ok {T : Nat} {σ : List Int} {B : sxB} {x : sxN} {X : Int} (hB : sxBR T σ B) (hx : sxNR σ x X) (h : sxPast B x = true) : (tLn T : Int) ≤ X := by
  unfold sxPast at h
  split at h
  · cases h
  · split at h
    · rename_i n hn
      have h1 := sxG1_ok hB hn (A := 0) ⟨0, hB.1.2, rfl⟩
      have h2 := sxLe_ok hB h h1 hx
      have h3 : sxSem T 40 0 0 = (tLn T : Int) := rfl
      omega
    · cases h
def sxKill (B : sxB) (O : sxO) (i : Nat) (x : sxN) : List Nat := match Nat.blt i 78 with
  | true => (match Nat.beq i 2 with | true => (match sxPast B x with | true => [] | false => [5]) | false => [])
  | false => match Nat.beq i 78 with
    | true => sxXi x (fun j => match Nat.beq j 25 with
      | true => [2]
      | false => match Nat.beq j 26 with
        | true => [0, 1]
        | false => match Nat.beq j 28 with
          | true => [0, 1, 4]
          | false => match Nat.beq j 4 with
            | true => [4]
            | false => []) [0, 1, 2, 4]
    | false => match Nat.blt i 96 with
      | true => (match Nat.beq i 82 with
        | true => sxXi x (fun j => match Nat.blt j 2 with | true => [3] | false => []) [3]
        | false => match Nat.beq i 86 with
          | true => [3]
          | false => match Nat.beq i 79 with
            | true => (match sxPast B x with | true => [] | false => [6])
            | false => [])
      | false => match Nat.blt i 106 with
        | true => [2]
        | false => match Nat.blt i 117 with
          | true => (match sxLim B O 26 (i - 107) with
            | true => sxXi x (fun j => match Nat.beq j 1 with | true => [0] | false => []) [0]
            | false => [0, 1])
          | false => match Nat.blt i 338 with
            | true => [2]
            | false => match Nat.blt i 559 with
              | true => (match sxLim B O 28 (i - 339) with
                | true => []
                | false => [0, 1])
              | false => []
def sxOne1 : sxV := .inr (false, (0, 1))
/-- known to be 1 -/
def sxIs1 (B : sxB) (O : sxO) (n j : Nat) : Bool := match sxNum B O n j with
  | some v => iEq v 1
  | none => false
/-- a code more, of such a kind, at such a height -/
def sxStp1 (w h : Int × Int) (x : sxN) : Option sxN := match iLe w.2 1 with
  | true => (match iLe 0 w.1 with | true => some (x.1, x.2 + 1) | false => none)
  | false => match iLe 8 w.1 with
    | false => (match iLe 2 w.1 with
      | true => (match iLe w.2 7 with
        | true => (match iLe 2 h.1 with | true => some (x.1, x.2 - 1) | false => none)
        | false => none)
      | false => none)
    | true => match iLe w.2 8 with
      | true => (match iLe 1 h.1 with | true => some x | false => none)
      | false => match iLe 9 w.1 with
        | true => (match iLe 2 h.1 with | true => some (x.1, x.2 - 1) | false => none)
        | false => none
def sxNewH (n : Nat) (B : sxB) (O : sxO) (c : Nat) : sxO := match sxOl O n (0, 0) with
  | some (.inr (false, h)) => (match sxOl O (339 + c) (0, 0) with
    | some (.inr (false, w)) => (match sxRg B h with
      | some rh => (match sxRg B w with
        | some rw => (match sxStp1 rw rh h with
          | some y => iFc y.2 fun k => [(n, (0, 0), .inr (false, (y.1, k)))]
          | none => [])
        | none => [])
      | none => [])
    | _ => [])
  | _ => []
def sxNew1 (n : Nat) (b : Bool) : sxO := match b with | true => [(n, (0, 1), sxOne1)] | false => []
def sxSameV (B : sxB) (a b : sxV) : Bool := match a with
  | .inr (false, x) => (match b with
    | .inr (false, y) => sxSame (sxNm B x) (sxNm B y)
    | _ => false)
  | _ => false
/-- the row that was read has its ends there -/
def sxRowOk (n : Nat) (B : sxB) (O : sxO) (r : Nat) : Bool := match sxOl O n (0, 0) with
  | some (.inr (false, _)) => (match sxOl O (107 + r) (0, 2) with
    | some a => (match sxOl O 78 (0, 28) with
      | some b => (match sxSameV B a b with
        | true => sxIs1 B O n 1
        | false => false)
      | none => false)
    | none => false)
  | _ => false
def sxNew4 (n : Nat) (B : sxB) (y : sxN) : sxO := match sxRg B y with
  | some r => (match sxRm sxM32 r.1 r.2 with | true => iFc y.2 fun k => [(n, (0, 4), .inr (false, (y.1, k)))] | false => [])
  | none => []
/-- the place in the text is another one -/
def sxNewA (n : Nat) (B : sxB) (O : sxO) (a : sxV) : sxO := match sxOl O n (0, 4) with
  | some (.inr (false, s)) => (match sxOl O 78 (0, 4) with
    | some (.inr (false, u)) => (match a with
      | .inr (false, v) => (match Nat.beq (sxNm B u).1 (sxNm B v).1 with
        | true => sxNew4 n B (s.1, s.2 + ((sxNm B v).2 - (sxNm B u).2))
        | false => [])
      | _ => [])
    | _ => [])
  | _ => []
/-- so many codes -/
def sxNewC (n : Nat) (B : sxB) (O : sxO) (m : Nat) : sxO := match sxOl O n (0, 4) with
  | some (.inr (false, s)) => (match sxNum B O 78 28 with
    | some u => sxNew4 n B (s.1, s.2 - (Int.ofNat m - u))
    | none => [])
  | _ => (match sxOl O 78 (0, 4) with
    | some (.inr (false, u)) => sxNew4 n B (u.1, u.2 - Int.ofNat m)
    | _ => [])
def sxNewG (n : Nat) (B : sxB) (O : sxO) (i : Nat) (x : sxN) (a : sxV) : sxO := match Nat.beq i 78 with
  | false => []
  | true => match x with
    | (0, .ofNat j) => (match Nat.beq j 28 with
      | true => (match a with
        | .inr (false, m) => (match sxNm B m with
          | (0, .ofNat m) => sxNewC n B O m ++ (match sxLim B O 26 0 with
            | true => sxNew1 n true
            | false => match sxNum B O 78 28 with
              | some (.ofNat c) => (match Nat.beq m (c + 1) with
                | true => (match Nat.blt c 220 with
                  | true => sxNewH n B O c ++ sxNew1 n (sxIs1 B O n 1)
                  | false => [])
                | false => [])
              | _ => [])
          | _ => [])
        | _ => [])
      | false => match Nat.beq j 26 with
        | true => (match a with
          | .inr (false, m) => (match sxNm B m with
            | (0, .ofNat m) => (match sxNum B O 78 26 with
              | some (.ofNat r) => (match Nat.beq m (r + 1) with
                | true => sxNew1 n (sxRowOk n B O r)
                | false => [])
              | _ => [])
            | _ => [])
          | _ => [])
        | false => match Nat.beq j 4 with
          | true => sxNewA n B O a
          | false => [])
    | _ => []
/-- what is read of the text -/
def sxRdO (f5 f6 : Bool) : sxO → sxB → sxB
  | [], B => B
  | q :: r, B => match q.2.2 with
    | .inr (false, v) => (match Nat.beq q.1 2 with
      | true => (match f5 with | true => sxBk (sxRdT B q.2.1 v) (fun B1 => sxRdO f5 f6 r B1) | false => sxRdO f5 f6 r B)
      | false => match Nat.beq q.1 79 with
        | true => (match f6 with | true => sxBk (sxRdT B q.2.1 v) (fun B1 => sxRdO f5 f6 r B1) | false => sxRdO f5 f6 r B)
        | false => sxRdO f5 f6 r B)
    | _ => sxRdO f5 f6 r B
/-- all that follows by the rules -/
def sxRul (n : Nat) (B : sxB) (O : sxO) : sxB := sxBk (sxRdO (sxIs1 B O n 5) (sxIs1 B O n 6) O B) fun B1 => sxBk (sxPa B1.2.2.2.1 B1) fun B2 => sxPss 2 B2
def sxPl0 (p : sxP) : Bool := match p with
  | .inr (true, lo, hi) => (match iLe 0 lo with | true => iLe hi 255 | false => false)
  | _ => false
/-- what may be said of the ghost's places here -/
def sxHk (n j : Nat) (B : sxB) (O : sxO) (G : sxG) : Option (sxB × sxO × sxG) := match j with
  | 0 => (match sxNum B O 78 26 with
    | some (.ofNat r) => (match sxOl O (107 + r) (0, 1) with
      | some a => (match sxOl O 78 (0, 28) with
        | some b => (match sxSameV B a b with
          | true => (match sxVle B b (.inr (false, 0, 220)) with
            | true => (match Nat.blt r 10 with
              | true => some (B, (n, (0, 0), .inr (false, (0, 0))) :: O, G)
              | false => none)
            | false => none)
          | false => none)
        | none => none)
      | none => none)
    | _ => none)
  | 1 => (match sxNum B O 78 26 with
    | some v => (match iEq v 0 with | true => some (B, (n, (0, 1), sxOne1) :: O, G) | false => none)
    | none => none)
  | 2 => (match sxNum B O 78 25 with
    | some v => (match iEq v 0 with | true => some (B, (n, (0, 2), sxOne1) :: O, G) | false => none)
    | none => none)
  | 3 => (match sxOl O 82 (0, 0) with
    | some (.inr (false, t)) => (match sxRg B t with
      | some q => (match iLe 4 q.1 with
        | true => some (B, (n, (0, 3), sxOne1) :: O, G)
        | false => match sxOl O 82 (0, 1) with
          | some (.inr (false, m)) => (match sxLe B m (0, 0) 0 with
            | true => some (B, (n, (0, 3), sxOne1) :: O, G)
            | false => match G.any (fun g => match Nat.beq g.1 86 with
              | true => (match sxLe B m g.2.1 0 with | true => sxPl0 g.2.2 | false => false)
              | false => false) with
            | true => some (B, (n, (0, 3), sxOne1) :: O, G)
            | false => none)
          | _ => none)
      | none => none)
    | _ => none)
  | 4 => (match sxOl O n (0, 0) with
    | some (.inr (false, h)) => some (sxAsm B h (0, 220) 0, O, G)
    | _ => none)
  | 6 => (match sxOl O 82 (0, 0) with
    | some (.inr (false, t)) => (match sxOl O 82 (0, 1) with
      | some (.inr (false, m)) => (match sxIs1 B O n 3 with
        | true => (match sxRg B t with
          | some q => (match iLe q.2 3 with
            | true => some (B, O, (86, m, .inr (true, 0, 255)) :: G)
            | false => none)
          | none => none)
        | false => none)
      | _ => none)
    | _ => none)
  | 7 => some (sxRul n B O, O, G)
  | _ => (match sxOl O n (0, 4) with
    | some (.inr (false, s)) => (match sxOl O 78 (0, 4) with
      | some (.inr (false, a)) => (match sxOl O 78 (0, 28) with
        | some (.inr (false, c)) => (match sxRg B s with
          | some r => some (sxAsm B c a (-r.1), O, G)
          | none => none)
        | _ => none)
      | _ => none)
    | _ => none)
def sxEl (H : mjH) (i j : Nat) : Option Value := match H[i]? with | some e => e.2[j]? | none => none
/-- the text that the tables speak of -/
def gT (gh : sxGh) : Nat := match gh [] 1000 with
  | some (.ref n) => n
  | _ => 0
/-- the ghost keeps to this -/
def sxGd (K : sxKx) (gh : sxGh) : Prop :=
  (∀ (σ : List Int) (B : sxB) (O : sxO) (scr : Option (List Int32)) (H : mjH) (i t : Nat) (vs : List Value) (x : sxN) (X : Int) (a : sxV) (w : Value), sxBR (gT gh) σ B → sxOR (sxVw gh scr K.2.1 H) σ O → H.length = K.2.1 → H[i]? = some (t, vs) → sxNR σ x X → 0 ≤ X → X.toNat < vs.length → sxVR σ a w →
    (∀ g, ¬ g ∈ sxKill B O i x → gh (H.set i (t, vs.set X.toNat w)) g = gh H g) ∧ sxOR (sxVw gh scr K.2.1 (H.set i (t, vs.set X.toNat w))) σ (sxNewG K.2.1 B O i x a)) ∧
  ∀ (σ : List Int) (B B' : sxB) (O O' : sxO) (G G' : sxG) (scr : Option (List Int32)) (H : mjH) (j : Nat), sxBR (gT gh) σ B → sxOR (sxVw gh scr K.2.1 H) σ O → sxGR (sxVw gh scr K.2.1 H) σ G → H.length = K.2.1 → sxHk K.2.1 j B O G = some (B', O', G') → sxBR (gT gh) σ B' ∧ sxOR (sxVw gh scr K.2.1 H) σ O' ∧ sxGR (sxVw gh scr K.2.1 H) σ G'
end SXGH

/-! SX: the ghost: which of its places a writing may change, what is known of them behind it, what may be said of them at any time. Its places: 0 the height of the codes read for the row that is being read; 1 all rows read are well formed; 2 all rows that stand are; 3 models are small where atoms are few; 4 how far the place in the text is ahead of the codes -/
noncomputable section SXGH
/-- a number that stands there -/
def sxNum (B : sxB) (O : sxO) (i j : Nat) : Option Int := match sxOl O i (0, Int.ofNat j) with
  | some (.inr (false, n)) => (match sxNm B n with
    | (0, v) => some v
    | (_ + 1, _) => none)
  | _ => none
/-- is the number that stands there known, and at most this? -/
def sxLim (B : sxB) (O : sxO) (j : Nat) (m : Nat) : Bool := match sxNum B O 78 j with
  | some (.ofNat v) => Nat.ble v m
  | _ => false
def sxXi (x : sxN) (f : Nat → List Nat) (d : List Nat) : List Nat := match x with
  | (0, .ofNat j) => f j
  | _ => d
/-- behind the text? -/
def sxPast (B : sxB) (x : sxN) : Bool := match B.2.2.2.2 with
  | [] => false
  | _ :: _ => match sxG1 B 40 (0, 0) with
    | some n => sxLe B n x 0
    | none => false
theorem sxPast_ok {T : Nat} {σ : List Int} {B : sxB} {x : sxN} {X : Int} (hB : sxBR T σ B) (hx : sxNR σ x X) (h : sxPast B x = true) : (tLn T : Int) ≤ X := by
  unfold sxPast at h
  split at h
  · cases h
  · split at h
    · rename_i n hn
      have h1 := sxG1_ok hB hn (A := 0) ⟨0, hB.1.2, rfl⟩
      have h2 := sxLe_ok hB h h1 hx
      have h3 : sxSem T 40 0 0 = (tLn T : Int) := rfl
      omega
    · cases h
def sxKill0 (B : sxB) (O : sxO) (i : Nat) (x : sxN) : List Nat := match Nat.blt i 78 with
  | true => (match Nat.beq i 2 with | true => (match sxPast B x with | true => [] | false => [5]) | false => [])
  | false => match Nat.beq i 78 with
    | true => sxXi x (fun j => match Nat.beq j 25 with
      | true => [2]
      | false => match Nat.beq j 26 with
        | true => [0, 1]
        | false => match Nat.beq j 28 with
          | true => [0, 1, 4]
          | false => match Nat.beq j 4 with
            | true => [4]
            | false => []) [0, 1, 2, 4]
    | false => match Nat.blt i 96 with
      | true => (match Nat.beq i 82 with
        | true => sxXi x (fun j => match Nat.blt j 2 with | true => [3] | false => []) [3]
        | false => match Nat.beq i 86 with
          | true => [3]
          | false => match Nat.beq i 79 with
            | true => (match sxPast B x with | true => [] | false => [6])
            | false => [])
      | false => match Nat.blt i 106 with
        | true => [2]
        | false => match Nat.blt i 117 with
          | true => (match sxLim B O 26 (i - 107) with
            | true => sxXi x (fun j => match Nat.beq j 1 with | true => [0] | false => []) [0]
            | false => [0, 1])
          | false => match Nat.blt i 338 with
            | true => [2]
            | false => match Nat.blt i 559 with
              | true => (match sxLim B O 28 (i - 339) with
                | true => []
                | false => [0, 1])
              | false => []
def sxOne1 : sxV := .inr (false, (0, 1))
/-- known to be 1 -/
def sxIs1 (B : sxB) (O : sxO) (n j : Nat) : Bool := match sxNum B O n j with
  | some v => iEq v 1
  | none => false
/-- a code more, of such a kind, at such a height -/
def sxStp1 (w h : Int × Int) (x : sxN) : Option sxN := match iLe w.2 1 with
  | true => (match iLe 0 w.1 with | true => some (x.1, x.2 + 1) | false => none)
  | false => match iLe 8 w.1 with
    | false => (match iLe 2 w.1 with
      | true => (match iLe w.2 7 with
        | true => (match iLe 2 h.1 with | true => some (x.1, x.2 - 1) | false => none)
        | false => none)
      | false => none)
    | true => match iLe w.2 8 with
      | true => (match iLe 1 h.1 with | true => some x | false => none)
      | false => match iLe 9 w.1 with
        | true => (match iLe 2 h.1 with | true => some (x.1, x.2 - 1) | false => none)
        | false => none
def sxNewH (n : Nat) (B : sxB) (O : sxO) (c : Nat) : sxO := match sxOl O n (0, 0) with
  | some (.inr (false, h)) => (match sxOl O (339 + c) (0, 0) with
    | some (.inr (false, w)) => (match sxRg B h with
      | some rh => (match sxRg B w with
        | some rw => (match sxStp1 rw rh h with
          | some y => iFc y.2 fun k => [(n, (0, 0), .inr (false, (y.1, k)))]
          | none => [])
        | none => [])
      | none => [])
    | _ => [])
  | _ => []
def sxNew1 (n : Nat) (b : Bool) : sxO := match b with | true => [(n, (0, 1), sxOne1)] | false => []
def sxSameV (B : sxB) (a b : sxV) : Bool := match a with
  | .inr (false, x) => (match b with
    | .inr (false, y) => sxSame (sxNm B x) (sxNm B y)
    | _ => false)
  | _ => false
/-- the row that was read has its ends there -/
def sxRowOk (n : Nat) (B : sxB) (O : sxO) (r : Nat) : Bool := match sxOl O n (0, 0) with
  | some (.inr (false, _)) => (match sxOl O (107 + r) (0, 2) with
    | some a => (match sxOl O 78 (0, 28) with
      | some b => (match sxSameV B a b with
        | true => sxIs1 B O n 1
        | false => false)
      | none => false)
    | none => false)
  | _ => false
def sxNew4 (n : Nat) (B : sxB) (y : sxN) : sxO := match sxRg B y with
  | some r => (match sxRm sxM32 r.1 r.2 with | true => iFc y.2 fun k => [(n, (0, 4), .inr (false, (y.1, k)))] | false => [])
  | none => []
/-- the place in the text is another one -/
def sxNewA (n : Nat) (B : sxB) (O : sxO) (a : sxV) : sxO := match sxOl O n (0, 4) with
  | some (.inr (false, s)) => (match sxOl O 78 (0, 4) with
    | some (.inr (false, u)) => (match a with
      | .inr (false, v) => (match Nat.beq (sxNm B u).1 (sxNm B v).1 with
        | true => sxNew4 n B (s.1, s.2 + ((sxNm B v).2 - (sxNm B u).2))
        | false => [])
      | _ => [])
    | _ => [])
  | _ => []
/-- so many codes -/
def sxNewC (n : Nat) (B : sxB) (O : sxO) (m : Nat) : sxO := match sxOl O n (0, 4) with
  | some (.inr (false, s)) => (match sxNum B O 78 28 with
    | some u => sxNew4 n B (s.1, s.2 - (Int.ofNat m - u))
    | none => [])
  | _ => (match sxOl O 78 (0, 4) with
    | some (.inr (false, u)) => sxNew4 n B (u.1, u.2 - Int.ofNat m)
    | _ => [])
def sxNewG0 (n : Nat) (B : sxB) (O : sxO) (i : Nat) (x : sxN) (a : sxV) : sxO := match Nat.beq i 78 with
  | false => []
  | true => match x with
    | (0, .ofNat j) => (match Nat.beq j 28 with
      | true => (match a with
        | .inr (false, m) => (match sxNm B m with
          | (0, .ofNat m) => sxNewC n B O m ++ (match sxLim B O 26 0 with
            | true => sxNew1 n true
            | false => match sxNum B O 78 28 with
              | some (.ofNat c) => (match Nat.beq m (c + 1) with
                | true => (match Nat.blt c 220 with
                  | true => sxNewH n B O c ++ sxNew1 n (sxIs1 B O n 1)
                  | false => [])
                | false => [])
              | _ => [])
          | _ => [])
        | _ => [])
      | false => match Nat.beq j 26 with
        | true => (match a with
          | .inr (false, m) => (match sxNm B m with
            | (0, .ofNat m) => (match sxNum B O 78 26 with
              | some (.ofNat r) => (match Nat.beq m (r + 1) with
                | true => sxNew1 n (sxRowOk n B O r)
                | false => [])
              | _ => [])
            | _ => [])
          | _ => [])
        | false => match Nat.beq j 4 with
          | true => sxNewA n B O a
          | false => [])
    | _ => []
/-- what is read of the text -/
def sxRdO (f5 f6 : Bool) (l_ : sxO) : sxB → sxB := @List.rec _ (fun _ => sxB → sxB) (fun B => B) (fun q _ ih B => match q.2.2 with
    | .inr (false, v) => (match Nat.beq q.1 2 with
      | true => (match f5 with | true => sxBk (sxRdT B q.2.1 v) (fun B1 => ih B1) | false => ih B)
      | false => match Nat.beq q.1 79 with
        | true => (match f6 with | true => sxBk (sxRdT B q.2.1 v) (fun B1 => ih B1) | false => ih B)
        | false => ih B)
    | _ => ih B) l_
theorem sxRdO_c {f5 f6 : Bool} {q : Nat × sxN × sxV} {r : sxO} {B : sxB} : sxRdO f5 f6 (q :: r) B = (match q.2.2 with
    | .inr (false, v) => (match Nat.beq q.1 2 with
      | true => (match f5 with | true => sxBk (sxRdT B q.2.1 v) (fun B1 => sxRdO f5 f6 r B1) | false => sxRdO f5 f6 r B)
      | false => match Nat.beq q.1 79 with
        | true => (match f6 with | true => sxBk (sxRdT B q.2.1 v) (fun B1 => sxRdO f5 f6 r B1) | false => sxRdO f5 f6 r B)
        | false => sxRdO f5 f6 r B)
    | _ => sxRdO f5 f6 r B) := rfl
/-- all that follows by the rules -/
def sxRul (n : Nat) (B : sxB) (O : sxO) : sxB := sxBk (sxRdO (sxIs1 B O n 5) (sxIs1 B O n 6) O B) fun B1 => sxBk (sxPa B1.2.2.2.1 B1) fun B2 => sxPss 2 B2
def sxPl0 (p : sxP) : Bool := match p with
  | .inr (true, lo, hi) => (match iLe 0 lo with | true => iLe hi 255 | false => false)
  | _ => false
/-- what may be said of the ghost's places here -/
def sxHk0 (n j : Nat) (B : sxB) (O : sxO) (G : sxG) : Option (sxB × sxO × sxG) := match j with
  | 0 => (match sxNum B O 78 26 with
    | some (.ofNat r) => (match sxOl O (107 + r) (0, 1) with
      | some a => (match sxOl O 78 (0, 28) with
        | some b => (match sxSameV B a b with
          | true => (match sxVle B b (.inr (false, 0, 220)) with
            | true => (match Nat.blt r 10 with
              | true => some (B, (n, (0, 0), .inr (false, (0, 0))) :: O, G)
              | false => none)
            | false => none)
          | false => none)
        | none => none)
      | none => none)
    | _ => none)
  | 1 => (match sxNum B O 78 26 with
    | some v => (match iEq v 0 with | true => some (B, (n, (0, 1), sxOne1) :: O, G) | false => none)
    | none => none)
  | 2 => (match sxNum B O 78 25 with
    | some v => (match iEq v 0 with | true => some (B, (n, (0, 2), sxOne1) :: O, G) | false => none)
    | none => none)
  | 3 => (match sxOl O 82 (0, 0) with
    | some (.inr (false, t)) => (match sxRg B t with
      | some q => (match iLe 4 q.1 with
        | true => some (B, (n, (0, 3), sxOne1) :: O, G)
        | false => match sxOl O 82 (0, 1) with
          | some (.inr (false, m)) => (match sxLe B m (0, 0) 0 with
            | true => some (B, (n, (0, 3), sxOne1) :: O, G)
            | false => match G.any (fun g => match Nat.beq g.1 86 with
              | true => (match sxLe B m g.2.1 0 with | true => sxPl0 g.2.2 | false => false)
              | false => false) with
            | true => some (B, (n, (0, 3), sxOne1) :: O, G)
            | false => none)
          | _ => none)
      | none => none)
    | _ => none)
  | 4 => (match sxOl O n (0, 0) with
    | some (.inr (false, h)) => some (sxAsm B h (0, 220) 0, O, G)
    | _ => none)
  | 6 => (match sxOl O 82 (0, 0) with
    | some (.inr (false, t)) => (match sxOl O 82 (0, 1) with
      | some (.inr (false, m)) => (match sxIs1 B O n 3 with
        | true => (match sxRg B t with
          | some q => (match iLe q.2 3 with
            | true => some (B, O, (86, m, .inr (true, 0, 255)) :: G)
            | false => none)
          | none => none)
        | false => none)
      | _ => none)
    | _ => none)
  | 7 => some (sxRul n B O, O, G)
  | _ => (match sxOl O n (0, 4) with
    | some (.inr (false, s)) => (match sxOl O 78 (0, 4) with
      | some (.inr (false, a)) => (match sxOl O 78 (0, 28) with
        | some (.inr (false, c)) => (match sxRg B s with
          | some r => some (sxAsm B c a (-r.1), O, G)
          | none => none)
        | _ => none)
      | _ => none)
    | _ => none)
/-! rows that an indicator follows: the ghost's place; cell and place of the count; the row's cell, from where on; its table, how many at most -/
abbrev rwR : Type := Nat × (Nat × Nat) × (Nat × Nat) × (Nat × Nat)
def rwTab : List rwR := [(20, (3, 2), (4, 0), (56, 12)), (21, (3, 4), (4, 12), (57, 5)), (22, (3, 3), (6, 0), (58, 12)), (23, (3, 3), (7, 0), (59, 12)), (24, (81, 1), (85, 0), (56, 12)), (25, (81, 3), (85, 12), (57, 5)), (26, (81, 2), (87, 0), (58, 12)), (27, (81, 2), (83, 0), (59, 12)), (28, (11, 2), (12, 0), (56, 12)), (29, (11, 4), (12, 12), (57, 5)), (30, (11, 3), (14, 0), (58, 12)), (31, (11, 3), (15, 0), (59, 12)), (32, (82, 1), (86, 0), (56, 12)), (33, (82, 3), (86, 12), (57, 5)), (34, (82, 2), (88, 0), (58, 12)), (35, (82, 2), (84, 0), (59, 12))]
/-- does a writing there change that row's indicator? -/
def rwK1 (B : sxB) (O : sxO) (i : Nat) (x : sxN) (r : rwR) : Bool := match Nat.beq i r.2.2.1.1 with
  | true => (match (match r.2.2.1.2 with | 0 => false | w + 1 => sxLe B x (0, Int.ofNat w) 0) with
    | true => false
    | false => match sxOl O r.2.1.1 (0, Int.ofNat r.2.1.2) with
      | some (.inr (false, v)) => (match sxLe B (v.1, v.2 + Int.ofNat r.2.2.1.2) x 0 with | true => false | false => true)
      | _ => true)
  | false => match Nat.beq i r.2.1.1 with
    | true => (match x.1 with | 0 => iEq x.2 (Int.ofNat r.2.1.2) | _ + 1 => true)
    | false => false
/-- cells of such rows -/
def rwIn (i : Nat) : Bool := match Nat.blt i 3 with
  | true => false
  | false => match Nat.blt i 17 with
    | true => true
    | false => match Nat.blt i 81 with
      | true => false
      | false => Nat.blt i 90
/-- all worlds of a JAR's atoms: its place, and what may change it -/
def rwAg (i : Nat) : Nat := match Nat.beq i 3 with | true => 36 | false => match Nat.beq i 11 with | true => 44 | false => 0
def rwAk (i : Nat) (x : sxN) : List Nat := match rwAg i with
  | 0 => []
  | g + 1 => match x.1 with
    | 0 => (match iLe x.2 1 with | true => [g + 1] | false => [])
    | _ + 1 => [g + 1]
def rwAn (n : Nat) (B : sxB) (O : sxO) (i j : Nat) (v : sxN) : sxO := match Nat.beq j 1 with
  | false => []
  | true => match rwAg i with
    | 0 => []
    | g + 1 => match sxOl O i (0, Int.ofNat 0) with
      | some (.inr (false, a)) => (match sxCst 51 (sxNm B a) (0, 0) with
        | some c => (match sxSame (sxNm B v) (0, c) with
          | true => [(n, (0, Int.ofNat (g + 1)), sxOne1)]
          | false => [])
        | none => [])
      | _ => []
/-- what its place says -/
def rwAr (n : Nat) (B : sxB) (O : sxO) (i : Nat) : sxB := match sxIs1 B O n (rwAg i) with
  | false => B
  | true => match sxOl O i (0, Int.ofNat 0) with
    | some (.inr (false, a)) => (match sxOl O i (0, Int.ofNat 1) with
      | some (.inr (true, l)) => sxPut B 51 a (0, 0) l
      | _ => B)
    | _ => B
/-! left rows, each by its own JAR: the places for the text's week and for all weeks; cell of atoms and count, place of the count; weeks, sights, left; the indicators of weeks and sights -/
abbrev ocTy : Type := (Nat × Nat) × (Nat × Nat) × (Nat × Nat × Nat) × (Nat × Nat)
def ocJ3 : ocTy := ((37, 38), (3, 3), (7, 6, 8), (23, 22))
def ocJ11 : ocTy := ((45, 46), (11, 3), (15, 14, 16), (31, 30))
def ocF : ocTy := ((39, 40), (82, 2), (84, 88, 89), (35, 34))
def ocTab : List ocTy := [ocJ3, ocJ11, ocF]
/-- places that a writing there changes -/
def ocK1 (B : sxB) (i : Nat) (x : sxN) (r : ocTy) : List Nat := match Nat.beq i r.2.2.1.1 || Nat.beq i r.2.2.1.2.1 with
  | true => [r.1.1, r.1.2]
  | false => match Nat.beq i r.2.2.1.2.2 with
    | true => (match (match sxG1 B 62 (0, 0) with | some w => sxApart B x w | none => false) with
      | true => [r.1.2]
      | false => [r.1.1, r.1.2])
    | false => match Nat.beq i r.2.1.1 with
      | true => (match x.1 with
        | 0 => (match iEq x.2 0 || iEq x.2 (Int.ofNat r.2.1.2) with
          | true => [r.1.1, r.1.2]
          | false => [])
        | _ + 1 => [r.1.1, r.1.2])
      | false => []
def ocKill (B : sxB) (i : Nat) (x : sxN) : List Nat := ocTab.flatMap (ocK1 B i x)
/-- what is read of a left row that keeps to its JAR -/
def ocRd1 (n : Nat) (O0 : sxO) (B : sxB) (q : Nat × sxN × sxV) (r : ocTy) : sxB := match Nat.beq q.1 r.2.2.1.2.2 with
  | false => B
  | true => match q.2.2 with
    | .inr (true, v) => (match sxIs1 B O0 n r.1.2 && (sxIs1 B O0 n r.2.2.2.1 && sxIs1 B O0 n r.2.2.2.2) with
      | false => B
      | true => match sxOl O0 r.2.1.1 (0, Int.ofNat 0) with
        | some (.inr (false, a)) => (match sxOl O0 r.2.1.1 (0, Int.ofNat r.2.1.2) with
          | some (.inr (false, m)) => (match sxG1 B 62 (0, 0) with
            | some w => (match sxEqv B q.2.1 (sxNm B w) && sxBtw B m 0 12 with
              | true => sxPut B 61 a m v
              | false => B)
            | none => B)
          | _ => B)
        | _ => B)
    | _ => B
def ocRdL (n : Nat) (O0 : sxO) (q : Nat × sxN × sxV) : List ocTy → sxB → sxB
  | [], B => B
  | r :: l, B => sxBk (ocRd1 n O0 B q r) fun B1 => ocRdL n O0 q l B1
/-- what is LEFT behind one SEEING more -/
def ocSt0 : sxF → sxB → sxB
  | [], B => B
  | q :: r, B => match Nat.beq q.1 51 with
    | true => sxBn (sxPut B 61 q.2.1 (0, 0) q.2.2.2) fun B1 => ocSt0 r B1
    | false => ocSt0 r B
def ocSt1 (w : sxN) (B : sxB) (q : Nat × sxN × sxN × sxN) : sxB := match Nat.beq q.1 61 with
  | false => B
  | true => match sxG1 B 59 q.2.2.1 with
    | none => B
    | some m => match sxBtw B q.2.2.1 0 11 with
      | false => B
      | true => match sxLe B m w 0 with
        | true => (match sxG1 B 58 q.2.2.1 with
          | none => B
          | some u => match (match sxFl B B.2.2.2.2 12 (sxNm B q.2.2.2) (sxNm B u) with | some v => some v | none => sxFl B B.2.2.2.2 12 (sxNm B u) (sxNm B q.2.2.2)) with
            | none => B
            | some v => sxPut B 61 q.2.1 (q.2.2.1.1, q.2.2.1.2 + 1) v)
        | false => match sxLe B w m (-1) with
          | true => sxPut B 61 q.2.1 (q.2.2.1.1, q.2.2.1.2 + 1) q.2.2.2
          | false => B
def ocStL (w : sxN) : sxF → sxB → sxB
  | [], B => B
  | q :: r, B => sxBn (ocSt1 w B q) fun B1 => ocStL w r B1
def ocEq1 (B : sxB) (q : Nat × sxN × sxN × sxN) : sxB := match Nat.beq q.1 61 with
  | false => B
  | true => match sxFl B B.2.2.2.2 61 (sxNm B q.2.1) (sxNm B q.2.2.1) with
    | none => B
    | some z => match sxSame z q.2.2.2 with
      | true => B
      | false => sxEqX B z q.2.2.2
def ocEqL : sxF → sxB → sxB
  | [], B => B
  | q :: r, B => sxBn (ocEq1 B q) fun B1 => ocEqL r B1
def ocStep (B : sxB) : sxB := sxBn (ocSt0 B.2.2.2.2 B) fun B1 => match sxG1 B1 62 (0, 0) with
  | none => B1
  | some w => sxBn (ocStL w B1.2.2.2.2 B1) fun B2 => ocEqL B2.2.2.2.2 B2
/-- what an operation gives, reckoned out or looked up -/
def flV (B : sxB) (o : Nat) (x y : sxN) : Option sxN := match sxCst o x y with
  | some c => some (0, c)
  | none => sxFl B B.2.2.2.2 o x y
/-- is it no 0? -/
def flN (B : sxB) (x : sxN) : Bool := match sxNot B x 0 0 with
  | true => true
  | false => sxNeq B x 0 B.2.2.2.2
/-- which SLIPS follow: one more -/
def flF (B : sxB) (q p f : Nat × sxN × sxN × sxN) : sxB := match Nat.beq f.1 65 with
  | false => B
  | true => match sxEqv B f.2.1 (sxNm B q.2.1) && (sxEqv B f.2.2.1 (sxNm B p.2.1) && sxBtw B f.2.2.1 0 12) with
    | false => B
    | true => match sxSame (sxNm B q.2.2.2) (0, 0) with
      | true => (match flV B 6 (0, 1) (sxNm B f.2.2.1) with
        | none => B
        | some u => match flV B 3 (sxNm B f.2.2.2) (sxNm B u) with
          | none => B
          | some r => sxPut B 65 f.2.1 (f.2.2.1.1, f.2.2.1.2 + 1) r)
      | false => match flN B q.2.2.2 with
        | true => sxPut B 65 f.2.1 (f.2.2.1.1, f.2.2.1.2 + 1) f.2.2.2
        | false => B
def flFf (q p : Nat × sxN × sxN × sxN) : sxF → sxB → sxB
  | [], B => B
  | f :: r, B => sxBn (flF B q p f) fun B1 => flFf q p r B1
def flFp (q : Nat × sxN × sxN × sxN) : sxF → sxB → sxB
  | [], B => B
  | p :: r, B => match Nat.beq p.1 56 with
    | false => flFp q r B
    | true => match sxFl B B.2.2.2.2 14 (sxNm B p.2.2.2) (0, -1) with
      | none => flFp q r B
      | some w => match sxEqv B q.2.2.1 (sxNm B w) with
        | false => flFp q r B
        | true => sxBn (flFf q p B.2.2.2.2 B) fun B1 => flFp q r B1
def flFq : sxF → sxB → sxB
  | [], B => B
  | q :: r, B => match Nat.beq q.1 12 with
    | false => flFq r B
    | true => sxBn (flFp q B.2.2.2.2 B) fun B1 => flFq r B1
/-- SLIPS so in a WORLD: one more -/
def flS (B : sxB) (q p f : Nat × sxN × sxN × sxN) : sxB := match Nat.beq f.1 63 || Nat.beq f.1 64 with
  | false => B
  | true => match sxEqv B f.2.1 (sxNm B q.2.2.1) && (sxEqv B f.2.2.1 (sxNm B p.2.1) && sxBtw B f.2.2.1 0 12) with
    | false => B
    | true => match Nat.beq f.1 63 with
      | true => (match sxSame (sxNm B q.2.2.2) (0, 0) with
        | true => sxPut B 63 f.2.1 (f.2.2.1.1, f.2.2.1.2 + 1) f.2.2.2
        | false => match sxSame (sxNm B q.2.2.2) (0, 1) with
          | false => B
          | true => match flV B 6 (0, 1) (sxNm B f.2.2.1) with
            | none => B
            | some u => match flV B 3 (sxNm B f.2.2.2) (sxNm B u) with
              | none => B
              | some r => sxPut B 63 f.2.1 (f.2.2.1.1, f.2.2.1.2 + 1) r)
      | false => match Nat.beq (sxNm B q.2.2.2).1 0 with
        | true => sxPut B 64 f.2.1 (f.2.2.1.1, f.2.2.1.2 + 1) ((sxNm B f.2.2.2).1, (sxNm B f.2.2.2).2 + (sxNm B q.2.2.2).2)
        | false => match Nat.beq (sxNm B f.2.2.2).1 0 with
          | true => sxPut B 64 f.2.1 (f.2.2.1.1, f.2.2.1.2 + 1) ((sxNm B q.2.2.2).1, (sxNm B q.2.2.2).2 + (sxNm B f.2.2.2).2)
          | false => match sxFl B B.2.2.2.2 5 (sxNm B f.2.2.2) (sxNm B q.2.2.2) with
            | none => B
            | some r => sxPut B 64 f.2.1 (f.2.2.1.1, f.2.2.1.2 + 1) r
def flSf (q p : Nat × sxN × sxN × sxN) : sxF → sxB → sxB
  | [], B => B
  | f :: r, B => sxBn (flS B q p f) fun B1 => flSf q p r B1
def flSp (q : Nat × sxN × sxN × sxN) : sxF → sxB → sxB
  | [], B => B
  | p :: r, B => match Nat.beq p.1 56 with
    | false => flSp q r B
    | true => match sxEqv B p.2.2.2 (sxNm B q.2.1) with
      | false => flSp q r B
      | true => sxBn (flSf q p B.2.2.2.2 B) fun B1 => flSp q r B1
def flSq : sxF → sxB → sxB
  | [], B => B
  | q :: r, B => match Nat.beq q.1 23 with
    | false => flSq r B
    | true => sxBn (flSp q B.2.2.2.2 B) fun B1 => flSq r B1
/-- the bits counted -/
def flCf (q : Nat × sxN × sxN × sxN) : sxF → sxB → sxB
  | [], B => B
  | f :: r, B => match Nat.beq f.1 63 && (sxEqv B f.2.2.2 (sxNm B q.2.1) && sxBtw B f.2.2.1 0 12) with
    | true => sxBn (sxPut B 64 f.2.1 f.2.2.1 q.2.2.2) fun B1 => flCf q r B1
    | false => flCf q r B
def flCq : sxF → sxB → sxB
  | [], B => B
  | q :: r, B => match Nat.beq q.1 55 with
    | false => flCq r B
    | true => sxBn (flCf q B.2.2.2.2 B) fun B1 => flCq r B1
/-- the same, once -/
def flE : sxF → sxB → sxB
  | [], B => B
  | q :: r, B => match Nat.beq q.1 63 || (Nat.beq q.1 64 || Nat.beq q.1 65) with
    | false => flE r B
    | true => match sxFl B B.2.2.2.2 q.1 (sxNm B q.2.1) (sxNm B q.2.2.1) with
      | none => flE r B
      | some z => match sxSame z q.2.2.2 with
        | true => flE r B
        | false => sxBn (sxEqX B z q.2.2.2) fun B1 => flE r B1
def flAll (B : sxB) : sxB := sxBn (flFq B.2.2.2.2 B) fun B1 => sxBn (flSq B1.2.2.2.2 B1) fun B2 => sxBn (flCq B2.2.2.2.2 B2) fun B3 => flE B3.2.2.2.2 B3
/-- is one all that the other is not? -/
def ppC (B : sxB) (t u : sxN) : Bool := match Nat.beq t.1 0 && Nat.beq u.1 0 with
  | true => iEq (t.2 + u.2) (-1)
  | false => match sxFl B B.2.2.2.2 14 t (0, -1) with
    | some w => sxEqv B w u
    | none => false
def ppD1 (B : sxB) (q p : Nat × sxN × sxN × sxN) (c l : sxN) : sxB := match Nat.beq p.1 12 with
  | false => B
  | true => match sxEqv B p.2.1 (sxNm B q.2.1) with
    | false => B
    | true => match ppC B (sxNm B q.2.2.1) (sxNm B p.2.2.1) with
      | false => B
      | true => match sxFl B B.2.2.2.2 54 (sxNm B p.2.2.2) (0, 0) with
        | none => B
        | some d => sxPut B 15 l c d
def ppDP (q : Nat × sxN × sxN × sxN) (c l : sxN) : sxF → sxB → sxB
  | [], B => B
  | p :: r, B => sxBn (ppD1 B q p c l) fun B1 => ppDP q c l r B1
def ppDL : sxF → sxB → sxB
  | [], B => B
  | q :: r, B => match Nat.beq q.1 12 with
    | true => (match sxFl B B.2.2.2.2 54 (sxNm B q.2.2.2) (0, 0) with
      | none => ppDL r B
      | some c => match sxFl B B.2.2.2.2 54 (sxNm B q.2.1) (0, 0) with
        | none => ppDL r B
        | some l => sxBn (ppDP q c l B.2.2.2.2 B) fun B1 => ppDL r B1)
    | false => ppDL r B
/-- what is LEFT, with an atom's worlds or with those of them that there are: the same -/
def lfIn1 (B : sxB) (q p : Nat × sxN × sxN × sxN) : sxB := match Nat.beq p.1 53 with
  | false => B
  | true => match sxEqv B p.2.2.1 (sxNm B q.2.1) with
    | false => B
    | true => match sxFl B B.2.2.2.2 52 (sxNm B p.2.1) (0, 0) with
      | none => B
      | some t => match sxFl B B.2.2.2.2 12 (sxNm B q.2.2.2) (sxNm B t) with
        | none => B
        | some z => sxPut B 12 q.2.2.2 p.2.2.2 z
def lfInP (q : Nat × sxN × sxN × sxN) : sxF → sxB → sxB
  | [], B => B
  | p :: r, B => sxBn (lfIn1 B q p) fun B1 => lfInP q r B1
def lfInL : sxF → sxB → sxB
  | [], B => B
  | q :: r, B => match Nat.beq q.1 61 with
    | true => sxBn (lfInP q B.2.2.2.2 B) fun B1 => lfInL r B1
    | false => lfInL r B
/-- what stands there at a week -/
def ocFnd (B : sxB) (w : sxN) (i : Nat) : sxO → Option sxN
  | [] => none
  | q :: r => match Nat.beq q.1 i with
    | false => ocFnd B w i r
    | true => match q.2.2 with
      | .inr (true, v) => (match sxEqv B q.2.1 w with | true => some v | false => ocFnd B w i r)
      | _ => ocFnd B w i r
def ocIs1 (n : Nat) (B : sxB) (O : sxO) (w : sxN) (r : ocTy) : Bool := match sxIs1 B O n r.2.2.2.1 && sxIs1 B O n r.2.2.2.2 with
  | false => false
  | true => match sxOl O r.2.1.1 (0, Int.ofNat 0) with
    | some (.inr (false, a)) => (match sxOl O r.2.1.1 (0, Int.ofNat r.2.1.2) with
      | some (.inr (false, m)) => (match sxBtw B m 0 12 with
        | false => false
        | true => match sxFl B B.2.2.2.2 61 (sxNm B a) (sxNm B m) with
          | none => false
          | some t => match ocFnd B (sxNm B w) r.2.2.1.2.2 O with
            | none => false
            | some v => sxEqv B t (sxNm B v))
      | _ => false)
    | _ => false
def ocIsL (n : Nat) (B : sxB) (O0 : sxO) (w : sxN) : List ocTy → sxO → sxO
  | [], O => O
  | r :: l, O => match ocIs1 n B O0 w r with
    | true => ocIsL n B O0 w l ((n, (0, Int.ofNat r.1.1), sxOne1) :: O)
    | false => ocIsL n B O0 w l O
def ocIs (n : Nat) (B : sxB) (O : sxO) : sxO := match sxG1 B 62 (0, 0) with
  | none => O
  | some w => ocIsL n B O w ocTab O
def rwKill (B : sxB) (O : sxO) (i : Nat) (x : sxN) : List Nat := match rwIn i with
  | false => []
  | true => (rwTab.filter (rwK1 B O i x)).map (fun r => r.1) ++ (rwAk i x ++ ocKill B i x)
/-- the row of sets: its ghost's mark -/
def cmKill (i : Nat) : List Nat := match Nat.beq i 46 with
  | true => [1001]
  | false => []
def sxKill (B : sxB) (O : sxO) (i : Nat) (x : sxN) : List Nat := (sxKill0 B O i x ++ rwKill B O i x) ++ cmKill i
/-- what stands at the place that a count names -/
def rwRow (B : sxB) (O : sxO) (r : rwR) (o : sxN) : Option sxN := match sxOl O r.2.2.1.1 (o.1, o.2 + Int.ofNat r.2.2.1.2) with
  | some (.inr (_, w)) => some w
  | some (.inl _) => none
  | none => match sxOl O r.2.2.1.1 ((sxNm B o).1, (sxNm B o).2 + Int.ofNat r.2.2.1.2) with
    | some (.inr (_, w)) => some w
    | _ => none
/-- the indicator behind a count that is written -/
def rwNew1 (n : Nat) (B : sxB) (O : sxO) (m : sxN) (r : rwR) : sxO := match sxSame (sxNm B m) (0, 0) with
  | true => [(n, (0, Int.ofNat r.1), sxOne1)]
  | false => match sxOl O r.2.1.1 (0, Int.ofNat r.2.1.2) with
    | some (.inr (false, o)) => (match sxSame (sxNm B m) ((sxNm B o).1, (sxNm B o).2 + 1) with
      | false => []
      | true => match sxBtw B o 0 (Int.ofNat r.2.2.2.2 - 1) with
        | false => []
        | true => match sxOl O n (0, Int.ofNat r.1) with
          | some (.inr (false, e)) => (match rwRow B O r o with
            | none => []
            | some w => match sxG1 B r.2.2.2.1 o with
              | none => []
              | some u => match sxFl B B.2.2.2.2 24 (sxNm B w) (sxNm B u) with
                | none => []
                | some q => match sxFl B B.2.2.2.2 25 (sxNm B e) (sxNm B q) with
                  | some z => [(n, (0, Int.ofNat r.1), .inr (false, z))]
                  | none => [])
          | _ => [])
    | _ => []
def rwNewL (n : Nat) (B : sxB) (O : sxO) (i j : Nat) (m : sxN) (l_ : List rwR) : sxO := @List.rec _ (fun _ => sxO) ([]) (fun r _ ih => match Nat.beq i r.2.1.1 && Nat.beq j r.2.1.2 with
    | true => rwNew1 n B O m r ++ ih
    | false => ih) l_
theorem rwNewL_c {n : Nat} {B : sxB} {O : sxO} {i j : Nat} {m : sxN} {r : rwR} {l : List rwR} : rwNewL n B O i j m (r :: l) = (match Nat.beq i r.2.1.1 && Nat.beq j r.2.1.2 with
    | true => rwNew1 n B O m r ++ rwNewL n B O i j m l
    | false => rwNewL n B O i j m l) := rfl
def rwNew (n : Nat) (B : sxB) (O : sxO) (i : Nat) (x : sxN) (a : sxV) : sxO := match rwIn i with
  | false => []
  | true => match x with
    | (0, .ofNat j) => (match a with
      | .inr (false, m) => rwNewL n B O i j m rwTab
      | .inr (true, m) => rwAn n B O i j m
      | _ => [])
    | _ => []
/-! sets of SLIPS: the row of what has all of each set; the ghost's own row tells how far it is as the table says -/
/-- is it known that all entries below a place are? -/
def cmA1 (n : Nat) (B : sxB) (x : sxN) : sxO → Bool
  | [] => false
  | q :: r => match Nat.beq q.1 (n + 1) && (sxSame (sxNm B q.2.1) x && (match q.2.2 with | .inr (false, v) => sxSame (sxNm B v) (0, 1) | _ => false)) with
    | true => true
    | false => cmA1 n B x r
/-- one place more -/
def cmNew (n : Nat) (B : sxB) (O : sxO) (i : Nat) (x : sxN) (a : sxV) : sxO := match Nat.beq i 46 with
  | false => []
  | true => match a with
    | .inr (true, v) => (match sxG1 B 66 x with
      | some u => (match sxEqv B u (sxNm B v) && (sxSame x (0, 0) || cmA1 n B x O) with
        | true => [(n + 1, (x.1, x.2 + 1), sxOne1)]
        | false => [])
      | none => [])
    | _ => []
def sxNewG (n : Nat) (B : sxB) (O : sxO) (i : Nat) (x : sxN) (a : sxV) : sxO := cmNew n B O i x a ++ (sxNewG0 n B O i x a ++ rwNew n B O i x a)
def rwGet (g : Nat) : Option rwR := rwTab.find? (fun r => Nat.beq r.1 g)
/-- a look-up, or a fact more -/
def rwFact (B : sxB) (o : Nat) (x y : sxN) : sxB × sxN := match sxFl B B.2.2.2.2 o (sxNm B x) (sxNm B y) with
  | some q => (B, q)
  | none => (fun w => (sxFa w.1 o x y w.2, w.2)) (sxFr B 0 1)
/-- ahead of a count that goes up: the indicator's next value, by facts -/
def rwInd (n : Nat) (B : sxB) (O : sxO) (g : Nat) : Option sxB := match rwGet g with
  | none => none
  | some r => match sxOl O r.2.1.1 (0, Int.ofNat r.2.1.2) with
    | some (.inr (false, o)) => (match sxOl O n (0, Int.ofNat r.1) with
      | some (.inr (false, e)) => (match rwRow B O r o with
        | none => none
        | some w => match sxG1 B r.2.2.2.1 o with
          | none => none
          | some u => (fun q => some (rwFact q.1 25 e q.2).1) (rwFact B 24 w u))
      | _ => none)
    | _ => none
/-- the two rows' first numbers are the same ones -/
def rwSame (B : sxB) (O : sxO) (r s : rwR) (v : sxN) : Bool := (List.range r.2.2.2.2).all (fun k => match sxLe B v (0, Int.ofNat k) 0 with
  | true => true
  | false => match sxOl O r.2.2.1.1 (0, Int.ofNat (r.2.2.1.2 + k)) with
    | some (.inr (t, a)) => (match sxOl O s.2.2.1.1 (0, Int.ofNat (s.2.2.1.2 + k)) with
      | some (.inr (t2, b)) => (match bEq t t2 with | true => sxSame (sxNm B a) (sxNm B b) | false => false)
      | _ => false)
    | _ => false)
/-- one row's indicator from that of another -/
def rwCopy (n : Nat) (B : sxB) (O : sxO) (g h : Nat) : Option sxO := match rwGet g with
  | none => none
  | some r => match rwGet h with
    | none => none
    | some s => match Nat.beq r.2.2.2.1 s.2.2.2.1 && Nat.beq r.2.2.2.2 s.2.2.2.2 with
      | false => none
      | true => match sxOl O r.2.1.1 (0, Int.ofNat r.2.1.2) with
      | some (.inr (false, v)) => (match sxOl O s.2.1.1 (0, Int.ofNat s.2.1.2) with
        | some (.inr (false, v2)) => (match sxSame (sxNm B v) (sxNm B v2) with
          | false => none
          | true => match sxOl O n (0, Int.ofNat s.1) with
            | some e => (match rwSame B O r s v with
              | true => some ((n, (0, Int.ofNat r.1), e) :: O)
              | false => none)
            | none => none)
        | _ => none)
      | _ => none
/-- what is read of rows whose indicator is 1 -/
def rwRd1 (n : Nat) (O0 : sxO) (B : sxB) (q : Nat × sxN × sxV) (r : rwR) : sxB := match Nat.beq q.1 r.2.2.1.1 with
  | false => B
  | true => match q.2.2 with
    | .inl _ => B
    | .inr (_, w) => match sxIs1 B O0 n r.1 with
      | false => B
      | true => match sxOl O0 r.2.1.1 (0, Int.ofNat r.2.1.2) with
        | some (.inr (false, v)) => iFc (q.2.1.2 - Int.ofNat r.2.2.1.2) fun k => (match sxLe B (0, 0) (q.2.1.1, k) 0 with
          | false => B
          | true => match sxLe B (q.2.1.1, k) v (-1) with
            | false => B
            | true => match sxBtw B v 0 (Int.ofNat r.2.2.2.2) with
              | false => B
              | true => sxPut B r.2.2.2.1 (q.2.1.1, k) (0, 0) w)
        | _ => B
def rwRdL (n : Nat) (O0 : sxO) (q : Nat × sxN × sxV) (l_ : List rwR) : sxB → sxB := @List.rec _ (fun _ => sxB → sxB) (fun B => B) (fun r _ ih B => sxBk (rwRd1 n O0 B q r) fun B1 => ih B1) l_
theorem rwRdL_c {n : Nat} {O0 : sxO} {q : Nat × sxN × sxV} {r : rwR} {l : List rwR} {B : sxB} : rwRdL n O0 q (r :: l) B = (sxBk (rwRd1 n O0 B q r) fun B1 => rwRdL n O0 q l B1) := rfl
def rwRdO (n : Nat) (O0 : sxO) (l_ : sxO) : sxB → sxB := @List.rec _ (fun _ => sxB → sxB) (fun B => B) (fun q _ ih B => match rwIn q.1 with
    | false => ih B
    | true => sxBk (rwRdL n O0 q rwTab B) fun B1 => sxBk (ocRdL n O0 q ocTab B1) fun B2 => ih B2) l_
theorem rwRdO_c {n : Nat} {O0 : sxO} {q : Nat × sxN × sxV} {l : sxO} {B : sxB} : rwRdO n O0 (q :: l) B = (match rwIn q.1 with
    | false => rwRdO n O0 l B
    | true => sxBk (rwRdL n O0 q rwTab B) fun B1 => sxBk (ocRdL n O0 q ocTab B1) fun B2 => rwRdO n O0 l B2) := rfl
/-- what it is the other bits of -/
def rwNt (B : sxB) (b : sxN) (l_ : sxF) : Option sxN := @List.rec _ (fun _ => Option sxN) (none) (fun q _ ih => match Nat.beq q.1 14 with
    | false => ih
    | true => match sxSame (sxNm B q.2.2.1) (0, -1) with
      | false => ih
      | true => match sxEqv B q.2.2.2 b with
        | true => some q.2.1
        | false => ih) l_
theorem rwNt_c {B : sxB} {b : sxN} {q : Nat × sxN × sxN × sxN} {r : sxF} : rwNt B b (q :: r) = (match Nat.beq q.1 14 with
    | false => rwNt B b r
    | true => match sxSame (sxNm B q.2.2.1) (0, -1) with
      | false => rwNt B b r
      | true => match sxEqv B q.2.2.2 b with
        | true => some q.2.1
        | false => rwNt B b r) := rfl
/-- a and not c is none: a and c is a -/
def rwBt1 (B : sxB) (q : Nat × sxN × sxN × sxN) : sxB := match Nat.beq q.1 12 with
  | false => B
  | true => match rwNt B (sxNm B q.2.2.1) B.2.2.2.2 with
    | none => B
    | some c => match sxBtw B q.2.1 (-9223372036854775808) 9223372036854775807 with
      | false => B
      | true => match (match sxFl B B.2.2.2.2 12 (sxNm B q.2.1) (sxNm B c) with | some u => some u | none => sxFl B B.2.2.2.2 12 (sxNm B c) (sxNm B q.2.1)) with
        | none => B
        | some u => match sxSame (sxNm B q.2.2.2) (0, 0) with
          | true => sxEqX B u q.2.1
          | false => match (match sxNot B q.2.2.2 0 0 with | true => true | false => sxNeq B q.2.2.2 0 B.2.2.2.2) with
            | true => sxPut B 21 u q.2.1 (0, 1)
            | false => B
def rwBtL (l_ : sxF) : sxB → sxB := @List.rec _ (fun _ => sxB → sxB) (fun B => B) (fun q _ ih B => sxBn (rwBt1 B q) fun B1 => ih B1) l_
theorem rwBtL_c {q : Nat × sxN × sxN × sxN} {r : sxF} {B : sxB} : rwBtL (q :: r) B = (sxBn (rwBt1 B q) fun B1 => rwBtL r B1) := rfl
def rwB6L (l_ : sxF) : sxB → sxB := @List.rec _ (fun _ => sxB → sxB) (fun B => B) (fun q _ ih B => match Nat.beq q.1 21 with
    | true => sxBn (sxR6 B q.2.1 q.2.2.1 q.2.2.2) fun B1 => ih B1
    | false => ih B) l_
theorem rwB6L_c {q : Nat × sxN × sxN × sxN} {r : sxF} {B : sxB} : rwB6L (q :: r) B = (match Nat.beq q.1 21 with
    | true => sxBn (sxR6 B q.2.1 q.2.2.1 q.2.2.2) fun B1 => rwB6L r B1
    | false => rwB6L r B) := rfl
/-- what was shifted so -/
def rwSh (B : sxB) (a : sxN) (l_ : sxF) : Option (sxN × sxN) := @List.rec _ (fun _ => Option (sxN × sxN)) (none) (fun q _ ih => match Nat.beq q.1 17 || Nat.beq q.1 18 with
    | false => ih
    | true => match sxEqv B q.2.2.2 a with
      | false => ih
      | true => match sxBtw B q.2.2.1 0 63 with
        | true => some (q.2.1, q.2.2.1)
        | false => ih) l_
theorem rwSh_c {B : sxB} {a : sxN} {q : Nat × sxN × sxN × sxN} {r : sxF} : rwSh B a (q :: r) = (match Nat.beq q.1 17 || Nat.beq q.1 18 with
    | false => rwSh B a r
    | true => match sxEqv B q.2.2.2 a with
      | false => rwSh B a r
      | true => match sxBtw B q.2.2.1 0 63 with
        | true => some (q.2.1, q.2.2.1)
        | false => rwSh B a r) := rfl
/-- with nothing, with all; one bit -/
def rwId1 (B : sxB) (q : Nat × sxN × sxN × sxN) : sxB := match Nat.beq q.1 12 with
  | true => (match sxSame (sxNm B q.2.2.1) (0, -1) with
    | true => (match sxBtw B q.2.1 (-9223372036854775808) 9223372036854775807 with
      | true => sxEqX B q.2.2.2 q.2.1
      | false => B)
    | false => match sxSame (sxNm B q.2.2.1) (0, 1) with
      | true => (match rwSh B (sxNm B q.2.1) B.2.2.2.2 with
        | some f => sxPut B 23 f.1 f.2 q.2.2.2
        | none => B)
      | false => B)
  | false => match Nat.beq q.1 23 with
    | true => (match sxFl B B.2.2.2.2 23 (sxNm B q.2.1) (sxNm B q.2.2.1) with
      | some z => (match sxSame z q.2.2.2 with | true => B | false => sxEqX B z q.2.2.2)
      | none => B)
    | false => match Nat.beq q.1 3 with
      | true => (match sxSame (sxNm B q.2.2.1) (0, 0) with
        | true => (match sxBtw B q.2.1 (-2147483648) 2147483647 with
          | true => sxEqX B q.2.2.2 q.2.1
          | false => B)
        | false => B)
      | false => match Nat.beq q.1 13 with
        | true => (match sxSame (sxNm B q.2.2.1) (0, 0) with
          | true => (match sxBtw B q.2.1 (-9223372036854775808) 9223372036854775807 with
            | true => sxEqX B q.2.2.2 q.2.1
            | false => B)
          | false => B)
        | false => B
def rwIdL (l_ : sxF) : sxB → sxB := @List.rec _ (fun _ => sxB → sxB) (fun B => B) (fun q _ ih B => sxBn (rwId1 B q) fun B1 => ih B1) l_
theorem rwIdL_c {q : Nat × sxN × sxN × sxN} {r : sxF} {B : sxB} : rwIdL (q :: r) B = (sxBn (rwId1 B q) fun B1 => rwIdL r B1) := rfl
def rwBt (B : sxB) : sxB := sxBn (rwBtL B.2.2.2.2 B) fun B1 => sxBn (rwIdL B1.2.2.2.2 B1) fun B2 => rwB6L B2.2.2.2.2 B2
/-! sets of SLIPS -/
/-- what is read of the row, as far as it is as the table says -/
def cmR1 (n : Nat) (B : sxB) (x : sxN) : sxO → Bool
  | [] => false
  | z :: r => match Nat.beq z.1 (n + 1) && ((match z.2.2 with | .inr (false, v) => sxSame (sxNm B v) (0, 1) | _ => false) && sxLe B x z.2.1 (-1)) with
    | true => true
    | false => cmR1 n B x r
def cmRdO (n : Nat) (O0 : sxO) : sxO → sxB → sxB
  | [], B => B
  | q :: l, B => match Nat.beq q.1 46 with
    | false => cmRdO n O0 l B
    | true => match q.2.2 with
      | .inr (true, v) => (match sxLe B (0, 0) q.2.1 0 && cmR1 n B q.2.1 O0 with
        | true => sxBn (sxPut B 66 q.2.1 (0, 0) v) fun B1 => cmRdO n O0 l B1
        | false => cmRdO n O0 l B)
      | _ => cmRdO n O0 l B
/-- the ghost's own row: places by their numbers -/
def cmNmO (n : Nat) (B : sxB) : sxO → sxO
  | [] => []
  | q :: r => (match Nat.beq q.1 (n + 1) with | true => (q.1, sxNm B q.2.1, q.2.2) | false => q) :: cmNmO n B r
/-- is a SLIP in a set? -/
def cmT (B : sxB) (a k : sxN) : Option sxN := match flV B 7 (sxNm B a) (sxNm B k) with
  | none => none
  | some h => flV B 2 (sxNm B h) (0, 1)
def cmIs (B : sxB) (t : Option sxN) (c : Int) : Bool := match t with
  | none => false
  | some t => sxSame (sxNm B t) (0, c)
def cmAnd (B : sxB) (x y : sxN) : Option sxN := match sxFl B B.2.2.2.2 12 x y with
  | some w => some w
  | none => sxFl B B.2.2.2.2 12 y x
/-- the same, once -/
def cmEq (f : Nat → Bool) : sxF → sxB → sxB
  | [], B => B
  | q :: r, B => match f q.1 with
    | false => cmEq f r B
    | true => match sxFl B B.2.2.2.2 q.1 (sxNm B q.2.1) (sxNm B q.2.2.1) with
      | none => cmEq f r B
      | some z => match sxSame z q.2.2.2 with
        | true => cmEq f r B
        | false => sxBn (sxEqX B z q.2.2.2) fun B1 => cmEq f r B1
/-- what is LEFT: of no SLIPS -/
def cm68 : sxF → sxB → sxB
  | [], B => B
  | q :: r, B => match Nat.beq q.1 68 with
    | true => sxBn (sxPut B 66 (0, 0) (0, 0) q.2.2.2) fun B1 => cm68 r B1
    | false => cm68 r B
/-- all members were looked at; one more -/
def cm67o (q : Nat × sxN × sxN × sxN) (B : sxB) : sxB := match sxNm B q.2.2.1 with
  | (0, .ofNat c) => (match Nat.ble c 12 && sxBtw B q.2.1 0 (Int.ofNat (2 ^ c - 1)) with
    | true => sxPut B 66 q.2.1 (0, 0) q.2.2.2
    | false => B)
  | _ => B
def cm67n (q : Nat × sxN × sxN × sxN) (B : sxB) : sxB := match sxBtw B q.2.2.1 0 11 with
  | false => B
  | true => match cmT B q.2.1 q.2.2.1 with
    | none => B
    | some t => match sxSame (sxNm B t) (0, 0) with
      | true => sxPut B 67 q.2.1 (q.2.2.1.1, q.2.2.1.2 + 1) q.2.2.2
      | false => match sxSame (sxNm B t) (0, 1) with
        | false => B
        | true => match sxFl B B.2.2.2.2 56 (sxNm B q.2.2.1) (0, 0) with
          | none => B
          | some m => match cmAnd B (sxNm B q.2.2.2) (sxNm B m) with
            | none => B
            | some w => sxPut B 67 q.2.1 (q.2.2.1.1, q.2.2.1.2 + 1) w
def cm67 : sxF → sxB → sxB
  | [], B => B
  | q :: r, B => match Nat.beq q.1 67 with
    | true => sxBn (cm67o q B) fun B1 => sxBn (cm67n q B1) fun B2 => cm67 r B2
    | false => cm67 r B
/-- a set, and one with a greater SLIP -/
def cm66 (v : sxN) (q p : Nat × sxN × sxN × sxN) (B : sxB) : sxB := match Nat.beq p.1 56 with
  | false => B
  | true => match sxNm B p.2.1 with
    | (0, .ofNat c) => (match Nat.blt c 12 && sxBtw B q.2.1 0 (Int.ofNat (2 ^ c - 1)) with
      | false => B
      | true => match cmAnd B v (sxNm B p.2.2.2) with
        | none => B
        | some w => sxPut B 66 (q.2.1.1, q.2.1.2 + Int.ofNat (2 ^ c)) (0, 0) w)
    | _ => B
def cm66p (v : sxN) (q : Nat × sxN × sxN × sxN) : sxF → sxB → sxB
  | [], B => B
  | p :: r, B => sxBn (cm66 v q p B) fun B1 => cm66p v q r B1
def cm66q : sxF → sxB → sxB
  | [], B => B
  | q :: r, B => match Nat.beq q.1 66 with
    | true => sxBn (cm66p (sxNm B q.2.2.2) q B.2.2.2.2 B) fun B1 => cm66q r B1
    | false => cm66q r B
def cmCom (B : sxB) : sxB := sxBn (cm68 B.2.2.2.2 B) fun B1 => sxBn (cm67 B1.2.2.2.2 B1) fun B2 => sxBn (cm66q B2.2.2.2.2 B2) fun B3 => cmEq (fun o => Nat.beq o 66 || Nat.beq o 67) B3.2.2.2.2 B3
/-- a set with one SLIP more; how many there are -/
def cmOrP (q : Nat × sxN × sxN × sxN) : sxF → sxB → sxB
  | [], B => B
  | p :: r, B => match Nat.beq p.1 6 && (sxSame (sxNm B p.2.1) (0, 1) && (sxEqv B p.2.2.2 (sxNm B q.2.2.1) && (sxBtw B p.2.2.1 0 11 && sxBtw B q.2.1 0 4095))) with
    | false => cmOrP q r B
    | true => match cmT B q.2.1 p.2.2.1 with
      | none => cmOrP q r B
      | some t => match sxSame (sxNm B t) (0, 1) with
        | true => sxBn (sxEqX B q.2.2.2 q.2.1) fun B1 => cmOrP q r B1
        | false => match sxSame (sxNm B t) (0, 0) with
          | true => sxBn (sxLeX B q.2.1 q.2.2.2 (-1)) fun B1 => cmOrP q r B1
          | false => cmOrP q r B
def cmPc1 (B : sxB) (q : Nat × sxN × sxN × sxN) : sxB := match sxCst q.1 (sxNm B q.2.1) (sxNm B q.2.2.1) with
  | some c => sxEqX B q.2.2.2 (0, c)
  | none => match Nat.beq q.1 55 && (sxSame (sxNm B q.2.2.1) (0, 0) && sxBtw B q.2.1 0 4095) with
    | false => B
    | true => sxBn (sxLeX B q.2.2.2 (0, 12) 0) fun B1 => sxBn (sxLeX B1 (0, 0) q.2.2.2 0) fun B2 => match sxFl B2 B2.2.2.2.2 54 (sxNm B2 q.2.1) (0, 0) with
      | none => B2
      | some z => match sxSame z q.2.2.2 with
        | true => B2
        | false => sxEqX B2 z q.2.2.2
def cmOrL : sxF → sxB → sxB
  | [], B => B
  | q :: r, B => match Nat.beq q.1 3 with
    | true => sxBn (cmOrP q B.2.2.2.2 B) fun B1 => cmOrL r B1
    | false => match Nat.beq q.1 54 || Nat.beq q.1 55 with
      | true => sxBn (cmPc1 B q) fun B1 => cmOrL r B1
      | false => cmOrL r B
/-- can no SLIP be added? -/
def cmNe (B : sxB) (x y : sxN) : sxF → Bool
  | [] => false
  | g :: r => match Nat.beq g.1 21 && (sxSame (sxNm B g.2.2.2) (0, 1) && ((sxEqv B g.2.1 (sxNm B x) && sxEqv B g.2.2.1 (sxNm B y)) || (sxEqv B g.2.2.1 (sxNm B x) && sxEqv B g.2.1 (sxNm B y)))) with
    | true => true
    | false => cmNe B x y r
def cmWk (q : Nat × sxN × sxN × sxN) (n : Nat) (f : Nat × sxN × sxN × sxN) (k : sxN) (B : sxB) : sxB := match sxBtw B k 0 (Int.ofNat n - 1) && sxBtw B q.2.1 0 4095 with
  | false => B
  | true => match (cmIs B (cmT B q.2.1 k) 0 || (sxLe B q.2.1 f.2.2.2 (-1) || (sxLe B f.2.2.2 q.2.1 (-1) || cmNe B f.2.2.2 q.2.1 B.2.2.2.2))) && (match sxFl B B.2.2.2.2 66 (sxNm B f.2.2.2) (0, 0) with | some z => flN B z | none => false) with
    | true => sxPut B 69 q.2.1 q.2.2.1 (0, 0)
    | false => match sxFl B B.2.2.2.2 70 (sxNm B q.2.1) (sxNm B k) with
      | none => B
      | some o => match (sxEqv B f.2.2.2 (sxNm B q.2.1) || cmIs B (cmT B q.2.1 k) 1) || cmIs B (sxFl B B.2.2.2.2 66 (sxNm B f.2.2.2) (0, 0)) 0 with
        | true => sxPut B 70 q.2.1 (k.1, k.2 + 1) o
        | false => B
def cmWp (q : Nat × sxN × sxN × sxN) (n : Nat) (f : Nat × sxN × sxN × sxN) : sxF → sxB → sxB
  | [], B => B
  | p :: r, B => match Nat.beq p.1 6 && (sxSame (sxNm B p.2.1) (0, 1) && sxEqv B p.2.2.2 (sxNm B f.2.2.1)) with
    | true => sxBn (cmWk q n f p.2.2.1 B) fun B1 => cmWp q n f r B1
    | false => cmWp q n f r B
def cmWf (q : Nat × sxN × sxN × sxN) (n : Nat) : sxF → sxB → sxB
  | [], B => B
  | f :: r, B => match Nat.beq f.1 3 && sxEqv B f.2.1 (sxNm B q.2.1) with
    | false => cmWf q n r B
    | true => match sxNm B f.2.2.1 with
      | (0, .ofNat c) => (match Nat.beq (2 ^ Nat.log2 c) c && Nat.blt (Nat.log2 c) 12 with
        | true => sxBn (cmWk q n f (0, Int.ofNat (Nat.log2 c)) B) fun B1 => cmWf q n r B1
        | false => cmWf q n r B)
      | _ => sxBn (cmWp q n f B.2.2.2.2 B) fun B1 => cmWf q n r B1
def cmW7 (q : Nat × sxN × sxN × sxN) : sxF → sxB → sxB
  | [], B => B
  | f :: r, B => match Nat.beq f.1 70 && (sxEqv B f.2.1 (sxNm B q.2.1) && (sxBtw B f.2.2.1 0 11 && cmIs B (cmT B q.2.1 f.2.2.1) 1)) with
    | true => sxBn (sxPut B 70 f.2.1 (f.2.2.1.1, f.2.2.1.2 + 1) f.2.2.2) fun B1 => cmW7 q r B1
    | false => cmW7 q r B
def cmW1 (B : sxB) (q : Nat × sxN × sxN × sxN) : sxB := match sxNm B q.2.2.1 with
  | (0, .ofNat n) => (match Nat.ble n 12 with
    | false => B
    | true => match cmIs B (sxFl B B.2.2.2.2 66 (sxNm B q.2.1) (0, 0)) 0 with
      | true => sxPut B 69 q.2.1 q.2.2.1 (0, 0)
      | false => sxBn (match sxFl B B.2.2.2.2 66 (sxNm B q.2.1) (0, 0) with
          | some v => (match flN B v with | true => sxPut B 70 q.2.1 (0, 0) (0, 1) | false => B)
          | none => B) fun B1 => sxBn (cmWf q n B1.2.2.2.2 B1) fun B2 => sxBn (cmW7 q B2.2.2.2.2 B2) fun B3 => match cmIs B3 (sxFl B3 B3.2.2.2.2 70 (sxNm B3 q.2.1) (0, Int.ofNat n)) 1 with
        | true => sxPut B3 69 q.2.1 q.2.2.1 (0, 1)
        | false => B3)
  | _ => B
def cmWL : sxF → sxB → sxB
  | [], B => B
  | q :: r, B => match Nat.beq q.1 69 with
    | true => sxBn (cmW1 B q) fun B1 => cmWL r B1
    | false => cmWL r B
def cmWho (B : sxB) : sxB := sxBn (cmWL B.2.2.2.2 B) fun B1 => cmEq (fun o => Nat.beq o 69 || Nat.beq o 70) B1.2.2.2.2 B1
/-- of the sets below one: where the tables begin -/
def cmS0 : sxF → sxB → sxB
  | [], B => B
  | q :: r, B => match Nat.beq q.1 79 with
    | true => sxBn (sxPut B 74 (0, 0) q.2.2.1 (0, 0)) fun B1 => cmS0 r B1
    | false => match Nat.beq q.1 86 with
      | false => cmS0 r B
      | true => match sxSame (sxNm B q.2.1) (0, 0) with
        | true => sxBn (sxPut B 71 (0, 0) (0, 0) (0, 0)) fun B1 => cmS0 r B1
        | false => match sxSame (sxNm B q.2.1) (0, 1) with
          | true => sxBn (sxPut B 72 (0, 0) (0, 0) (0, -1)) fun B1 => cmS0 r B1
          | false => match sxSame (sxNm B q.2.1) (0, 2) with
            | true => sxBn (sxPut B 74 (0, 0) q.2.2.1 (0, 0)) fun B1 => cmS0 r B1
            | false => match sxSame (sxNm B q.2.1) (0, 3) with
              | true => sxBn (sxPut B 73 (0, 0) (0, 0) (0, -1)) fun B1 => cmS0 r B1
              | false => cmS0 r B
/-- how many SLIPS -/
def cmNn (B : sxB) : sxF → Option Nat
  | [] => none
  | f :: r => match Nat.beq f.1 79 || Nat.beq f.1 86 with
    | false => cmNn B r
    | true => match sxNm B f.2.2.1 with
      | (0, .ofNat n) => some n
      | _ => cmNn B r
/-- no set is left -/
def cmF79 (m : sxN) (n : Nat) : sxF → sxB → sxB
  | [], B => B
  | f :: r, B => match Nat.beq f.1 79 && (sxSame (sxNm B f.2.2.1) (0, Int.ofNat n) && (sxLe B m f.2.1 0 || sxLe B f.2.1 (0, -1) 0)) with
    | true => sxBn (sxPut B 79 f.2.1 f.2.2.1 (0, -1)) fun B1 => cmF79 m n r B1
    | false => cmF79 m n r B
def cmH86 (F : sxF) : Bool := F.any (fun f => Nat.beq f.1 86)
def cmFin (FW : sxF) (n : Nat) (q : Nat × sxN × sxN × sxN) (B : sxB) : sxB := match Nat.beq q.1 74 with
  | true => (match sxSame (sxNm B q.2.2.1) (0, Int.ofNat n) with
    | false => B
    | true => sxBn (cmF79 q.2.2.2 n FW B) fun B1 => match cmH86 FW with
      | true => sxPut B1 86 (0, 2) (0, Int.ofNat n) q.2.2.2
      | false => B1)
  | false => match cmH86 FW with
    | false => B
    | true => match Nat.beq q.1 71 with
      | true => sxPut B 86 (0, 0) (0, Int.ofNat n) q.2.2.2
      | false => match Nat.beq q.1 72 with
        | true => sxPut B 86 (0, 1) (0, Int.ofNat n) q.2.2.2
        | false => match Nat.beq q.1 73 with
          | true => sxPut B 86 (0, 3) (0, Int.ofNat n) q.2.2.2
          | false => B
/-- one set more -/
def cmI79 (a m : sxN) (n : Nat) : sxF → sxB → sxB
  | [], B => B
  | f :: r, B => match Nat.beq f.1 79 && (sxSame (sxNm B f.2.2.1) (0, Int.ofNat n) && (sxEqv B f.2.1 (sxNm B m) && sxLe B a (0, Int.ofNat (2 ^ n)) (-1))) with
    | true => sxBn (sxPut B 79 f.2.1 f.2.2.1 a) fun B1 => cmI79 a m n r B1
    | false => cmI79 a m n r B
def cmPcv (B : sxB) (x : sxN) : Option sxN := match sxCst 55 (sxNm B x) (0, 0) with
  | some c => some (0, c)
  | none => match sxFl B B.2.2.2.2 55 (sxNm B x) (0, 0) with
    | some z => some z
    | none => sxFl B B.2.2.2.2 54 (sxNm B x) (0, 0)
def cm74 (FW : sxF) (n : Nat) (q : Nat × sxN × sxN × sxN) (B : sxB) : sxB := match sxSame (sxNm B q.2.2.1) (0, Int.ofNat n) with
  | false => B
  | true => match cmIs B (sxFl B B.2.2.2.2 69 (sxNm B q.2.1) (0, Int.ofNat n)) 1 with
    | true => sxBn (sxPut B 74 (q.2.1.1, q.2.1.2 + 1) q.2.2.1 (q.2.2.2.1, q.2.2.2.2 + 1)) fun B1 => cmI79 q.2.1 q.2.2.2 n FW B1
    | false => match cmIs B (sxFl B B.2.2.2.2 69 (sxNm B q.2.1) (0, Int.ofNat n)) 0 || cmIs B (sxFl B B.2.2.2.2 66 (sxNm B q.2.1) (0, 0)) 0 with
      | true => sxPut B 74 (q.2.1.1, q.2.1.2 + 1) q.2.2.1 q.2.2.2
      | false => B
/-- is the new one better? -/
def cmBe (o : Nat) (q : Nat × sxN × sxN × sxN) (u w : Option sxN) (B : sxB) : sxB := match u with
  | none => B
  | some u => match w with
    | none => B
    | some w => match sxLe B u w (-1) with
      | true => sxPut B o (q.2.1.1, q.2.1.2 + 1) (0, 0) q.2.1
      | false => match sxLe B w u 0 with
        | true => sxPut B o (q.2.1.1, q.2.1.2 + 1) (0, 0) q.2.2.2
        | false => B
def cm7x (o : Nat) (q : Nat × sxN × sxN × sxN) (z n : Bool) (B : sxB) : sxB := match Nat.beq o 71 with
  | true => (match n with
    | true => sxPut B 71 (q.2.1.1, q.2.1.2 + 1) (0, 0) (q.2.2.2.1, q.2.2.2.2 + 1)
    | false => match z with
      | true => sxPut B 71 (q.2.1.1, q.2.1.2 + 1) (0, 0) q.2.2.2
      | false => B)
  | false => match Nat.beq o 72 with
    | true => (match n with
      | false => (match z with | true => sxPut B 72 (q.2.1.1, q.2.1.2 + 1) (0, 0) q.2.2.2 | false => B)
      | true => match sxSame (sxNm B q.2.2.2) (0, -1) with
        | true => sxPut B 72 (q.2.1.1, q.2.1.2 + 1) (0, 0) q.2.1
        | false => match sxBtw B q.2.2.2 0 4095 with
          | false => B
          | true => cmBe 72 q (cmPcv B q.2.2.2) (cmPcv B q.2.1) B)
    | false => match z with
      | false => (match n with | true => sxPut B 73 (q.2.1.1, q.2.1.2 + 1) (0, 0) q.2.2.2 | false => B)
      | true => match sxSame (sxNm B q.2.2.2) (0, -1) with
        | true => sxPut B 73 (q.2.1.1, q.2.1.2 + 1) (0, 0) q.2.1
        | false => match sxBtw B q.2.2.2 0 4095 with
          | false => B
          | true => cmBe 73 q (cmPcv B q.2.1) (cmPcv B q.2.2.2) B
def cmM1 (FW : sxF) (n : Nat) (q : Nat × sxN × sxN × sxN) (B : sxB) : sxB := match sxSame (sxNm B q.2.1) (0, Int.ofNat (2 ^ n)) with
  | true => cmFin FW n q B
  | false => match sxBtw B q.2.1 0 4095 with
    | false => B
    | true => match Nat.beq q.1 74 with
      | true => cm74 FW n q B
      | false => match sxFl B B.2.2.2.2 66 (sxNm B q.2.1) (0, 0) with
        | none => B
        | some v => cm7x q.1 q (sxSame (sxNm B v) (0, 0)) (flN B v) B
def cmML (FW : sxF) (n : Nat) : sxF → sxB → sxB
  | [], B => B
  | q :: r, B => match Nat.beq q.1 71 || (Nat.beq q.1 72 || (Nat.beq q.1 73 || Nat.beq q.1 74)) with
    | true => sxBn (cmM1 FW n q B) fun B1 => cmML FW n r B1
    | false => cmML FW n r B
def cmSum (B : sxB) : sxB := sxBn (cmS0 B.2.2.2.2 B) fun B1 => sxBn (match cmNn B1 B1.2.2.2.2 with
    | some n => (match Nat.ble n 12 with | true => cmML B1.2.2.2.2 n B1.2.2.2.2 B1 | false => B1)
    | none => B1) fun B2 => cmEq (fun o => Nat.beq o 71 || (Nat.beq o 72 || (Nat.beq o 73 || (Nat.beq o 74 || (Nat.beq o 79 || Nat.beq o 86))))) B2.2.2.2.2 B2
def rwHk (n j : Nat) (B : sxB) (O : sxO) (G : sxG) : Option (sxB × sxO × sxG) := match Nat.blt j 200 with
  | true => (match rwInd n B O (j - 100) with
    | some B1 => some (B1, O, G)
    | none => match rwInd n B O (j - 92) with
      | some B1 => some (B1, O, G)
      | none => none)
  | false => match Nat.blt j 300 with
    | true => (match rwCopy n B O (j - 200) (j - 208) with
      | some O1 => some (B, O1, G)
      | none => none)
    | false => match Nat.beq j 300 with
      | true => some (sxBn (cmRdO n O O B) fun B1 => rwRdO n O O B1, O, G)
      | false => match Nat.beq j 305 with
        | true => some (sxBn (rwAr n B O 3) fun B1 => rwAr n B1 O 11, O, G)
        | false => match Nat.beq j 306 with
          | true => some (ocStep B, O, G)
          | false => match Nat.beq j 307 with
            | true => some (B, ocIs n B O, G)
            | false => match Nat.beq j 308 with
              | true => some (lfInL B.2.2.2.2 B, O, G)
              | false => match Nat.beq j 309 with
                | true => some (ppDL B.2.2.2.2 B, O, G)
                | false => match Nat.beq j 310 with
                  | true => some (flAll B, O, G)
                  | false => match Nat.beq j 312 with
                  | true => some (cmCom B, O, G)
                  | false => match Nat.beq j 314 with
                  | true => some (cmOrL B.2.2.2.2 B, O, G)
                  | false => match Nat.beq j 315 with
                  | true => some (B, cmNmO n B O, G)
                  | false => match Nat.beq j 316 with
                  | true => some (cmWho B, O, G)
                  | false => match Nat.beq j 317 with
                  | true => some (sxBn (cmOrL B.2.2.2.2 B) fun B1 => cmSum B1, O, G)
                  | false => some (rwBt B, O, G)
def sxHk (n j : Nat) (B : sxB) (O : sxO) (G : sxG) : Option (sxB × sxO × sxG) := match Nat.blt j 100 with
  | true => sxHk0 n j B O G
  | false => rwHk n j B O G
def sxEl (H : mjH) (i j : Nat) : Option Value := match H[i]? with | some e => e.2[j]? | none => none
/-- the text that the tables speak of -/
def gT (gh : sxGh) : Nat := match gh [] 1000 with
  | some (.ref n) => n
  | _ => 0
/-- the ghost keeps to this -/
def sxGd (K : sxKx) (gh : sxGh) : Prop :=
  (∀ (σ : List Int) (B : sxB) (O : sxO) (scr : Option (List Int32)) (H : mjH) (i t : Nat) (vs : List Value) (x : sxN) (X : Int) (a : sxV) (w : Value), sxBR (gT gh) σ B → sxOR (sxVw gh scr K.2.1 H) σ O → H.length = K.2.1 → H[i]? = some (t, vs) → sxNR σ x X → 0 ≤ X → X.toNat < vs.length → sxVR σ a w →
    (∀ g, (g ∈ sxKill B O i x → g = 1001) → gh (H.set i (t, vs.set X.toNat w)) g = gh H g) ∧ sxOR (sxVw gh scr K.2.1 (H.set i (t, vs.set X.toNat w))) σ (sxNewG K.2.1 B O i x a) ∧ ∀ s : Nat, (1001 ∈ sxKill B O i x → s ≤ X.toNat) → gh ((s, []) :: H.set i (t, vs.set X.toNat w)) 1001 = gh ((s, []) :: H) 1001) ∧
  ∀ (σ : List Int) (B B' : sxB) (O O' : sxO) (G G' : sxG) (scr : Option (List Int32)) (H : mjH) (j : Nat), sxBR (gT gh) σ B → sxOR (sxVw gh scr K.2.1 H) σ O → sxGR (sxVw gh scr K.2.1 H) σ G → H.length = K.2.1 → sxHk K.2.1 j B O G = some (B', O', G') → ∃ σ', sxUp σ σ' ∧ sxBR (gT gh) σ' B' ∧ sxOR (sxVw gh scr K.2.1 H) σ' O' ∧ sxGR (sxVw gh scr K.2.1 H) σ' G'
end SXGH

/-! SX: the ghost of this program: heights of codes -/
noncomputable section GHOST
/-- what a reading comes to: its answer, whether there is one, what the JAR tells and where its fault stands -/
abbrev rdVt : Type := Int × Int × (Nat → Int)
def v00 : rdVt := (0, 0, fun _ => 0)
variable {T : Nat} {V : rdVt}
def ghV (H : mjH) (i j : Nat) : Int := match sxEl H i j with
  | some (.int x) => x.toInt
  | _ => 0
def ghS (w : Int) (h : Nat) : Option Nat := if w < 2 then some (h + 1) else if w = 8 then (if 1 ≤ h then some h else none) else (if 2 ≤ h then some (h - 1) else none)
/-- the height behind so many codes from here on -/
def ghH (c : Nat → Int) (f : Nat) : Nat → Option Nat
  | 0 => some 0
  | n + 1 => match ghH c f n with
    | some h => ghS (c (f + n)) h
    | none => none
theorem ghS_le {w : Int} {h k : Nat} (e : ghS w h = some k) : k ≤ h + 1 := by
  unfold ghS at e
  split at e
  · cases e; omega
  · split at e
    · split at e <;> cases e
      omega
    · split at e <;> cases e
      omega
theorem ghH_le {c : Nat → Int} {f : Nat} : ∀ {n h : Nat}, ghH c f n = some h → h ≤ n
  | 0, h, e => by cases e; omega
  | n + 1, h, e => by
    unfold ghH at e
    split at e
    · rename_i h0 e0
      have := ghH_le e0
      have := ghS_le e
      omega
    · cases e
theorem ghH_congr {c d : Nat → Int} {f : Nat} : ∀ {n : Nat}, (∀ i, f ≤ i → i < f + n → c i = d i) → ghH c f n = ghH d f n
  | 0, _ => rfl
  | n + 1, h => by
    unfold ghH
    rw [ghH_congr (n := n) (fun i h1 h2 => h i h1 (by omega)), h (f + n) (by omega) (by omega)]
def ghRc (H : mjH) (i : Nat) : Int := ghV H (339 + i) 0
def ghCc (H : mjH) (i : Nat) : Int := ghV H (118 + i) 0
def ghOk (c : Nat → Int) (a b : Int) : Prop := 0 ≤ a ∧ a ≤ b ∧ b ≤ 220 ∧ ∃ h, ghH c a.toNat (b - a).toNat = some h
def ghP0 (H : mjH) (h : Nat) : Prop := ∃ a b : Int, (0 ≤ ghV H 78 26 ∧ ghV H 78 26 < 10) ∧ a = ghV H (107 + (ghV H 78 26).toNat) 1 ∧ b = ghV H 78 28 ∧ 0 ≤ a ∧ a ≤ b ∧ b ≤ 220 ∧ ghH (ghRc H) a.toNat (b - a).toNat = some h
def ghP1 (H : mjH) : Prop := ∀ k : Nat, k < 10 → (k : Int) < ghV H 78 26 → ghOk (ghRc H) (ghV H (107 + k) 1) (ghV H (107 + k) 2) ∧ ghV H (107 + k) 2 ≤ ghV H 78 28
def ghP2 (H : mjH) : Prop := ∀ k : Nat, k < 10 → (k : Int) < ghV H 78 25 → ghOk (ghCc H) (ghV H (96 + k) 1) (ghV H (96 + k) 2)
def ghP3 (H : mjH) : Prop := ghV H 82 0 ≤ 3 → ∀ (k : Nat) (v : Value), (k : Int) < ghV H 82 1 → sxEl H 86 k = some v → ∃ x : Int64, v = .long x ∧ 0 ≤ x.toInt ∧ x.toInt ≤ 255
def ghP4 (H : mjH) (z : Int) : Prop := z = ghV H 78 4 - ghV H 78 28 ∧ -2147483648 ≤ z ∧ z < 2147483648
def ghB (p : Prop) : Option Value := @ite _ p (Classical.propDecidable p) (some (.int 1)) none
/-- the number of which this holds -/
def ghN (p : Int → Prop) : Option Value := @dite _ (∃ z, p z) (Classical.propDecidable _) (fun h => some (.int (Int32.ofInt (Classical.choose h)))) (fun _ => none)
/-- the class's row, the reference's, holds the text -/
def ghP5 (T : Nat) (H : mjH) : Prop := ∀ k : Nat, k < tLn T → ∃ x : Int32, sxEl H 2 k = some (.int x) ∧ (-128 ≤ x.toInt ∧ x.toInt ≤ 127) ∧ tBy T k = if x.toInt < 0 then x.toInt + 256 else x.toInt
def ghP6 (T : Nat) (H : mjH) : Prop := ∀ k : Nat, k < tLn T → ∃ x : Int32, sxEl H 79 k = some (.int x) ∧ (0 ≤ x.toInt ∧ x.toInt ≤ 255) ∧ tBy T k = x.toInt
/-- the text, and two numbers more -/
def ghT (T : Nat) (V : rdVt) (n : Nat) : Option Value := if n = 993 then some (.ref T) else if n = 0 then some (.int (Int32.ofInt V.1)) else if n = 1 then some (.int (Int32.ofInt V.2.1)) else if n < 12 then some (.int (Int32.ofInt (V.2.2 (n - 2)))) else if n = 12 then some (.long (Int64.ofInt V.1)) else none
/-- a number, of either size -/
def rwEl (H : mjH) (i j : Nat) : Option Int := match sxEl H i j with
  | some (.int x) => some x.toInt
  | some (.long x) => some x.toInt
  | _ => none
/-- the row's first numbers are the table's -/
def rwP (T : Nat) (r : rwR) (H : mjH) : Prop := ∀ k : Nat, k < r.2.2.2.2 → (k : Int) < ghV H r.2.1.1 r.2.1.2 → rwEl H r.2.2.1.1 (r.2.2.1.2 + k) = some (sxSem T r.2.2.2.1 k 0)
def rwB (p : Prop) : Int32 := @ite _ p (Classical.propDecidable p) 1 0
def ghR (T : Nat) (H : mjH) (g : Nat) : Option Value := match rwGet g with
  | some r => some (.int (rwB (rwP T r H)))
  | none => none
def rwAp (i : Nat) (H : mjH) : Prop := rwEl H i 1 = some (tAll (ghV H i 0))
/-- what is LEFT by a JAR's own rows -/
def rwZ (H : mjH) (i j : Nat) : Int := match rwEl H i j with | some z => z | none => 0
def ocW (r : ocTy) (w : Int) (H : mjH) : Nat → Int
  | 0 => tAll (ghV H r.2.1.1 0)
  | k + 1 => if rwZ H r.2.2.1.1 k ≤ w then (Int64.ofInt (ocW r w H k) &&& Int64.ofInt (rwZ H r.2.2.1.2.1 k)).toInt else ocW r w H k
def ocP (r : ocTy) (w : Int) (H : mjH) : Prop := rwEl H r.2.2.1.2.2 w.toNat = some (ocW r w H (ghV H r.2.1.1 r.2.1.2).toNat)
def ocA (r : ocTy) (H : mjH) : Prop := ∀ w : Nat, w < 52 → ocP r w H
def ocPl (n : Nat) : Option (ocTy × Bool) := match Nat.beq n 30 with
  | true => some (ocJ3, false)
  | false => match Nat.beq n 31 with
    | true => some (ocJ3, true)
    | false => match Nat.beq n 32 with
      | true => some (ocF, false)
      | false => match Nat.beq n 33 with
        | true => some (ocF, true)
        | false => match Nat.beq n 38 with
          | true => some (ocJ11, false)
          | false => match Nat.beq n 39 with
            | true => some (ocJ11, true)
            | false => none
/-- the row of sets: all entries below a place are the table's; the place stands ahead of the heap -/
def cmQ (T s : Nat) (H : mjH) : Prop := ∀ k : Nat, k < s → rwEl H 46 k = some (tCM T (k : Int) 12)
def cmB (T : Nat) : mjH → Option Value
  | [] => none
  | e :: H => if H.length = 579 then ghB (cmQ T e.1 H) else none
def cmX (T : Nat) (V : rdVt) (H : mjH) (n : Nat) : Option Value := match Nat.beq n 994 with
  | true => cmB T H
  | false => ghT T V n
def ocX (T : Nat) (V : rdVt) (H : mjH) (n : Nat) : Option Value := match ocPl n with
  | some (r, false) => ghB (ocP r (tWk T) H)
  | some (r, true) => ghB (ocA r H)
  | none => cmX T V H n
def ghX (T : Nat) (V : rdVt) (H : mjH) (n : Nat) : Option Value := match Nat.blt n 13 with
  | true => ghT T V n
  | false => match Nat.blt n 29 with
    | true => ghR T H (n + 7)
    | false => match Nat.beq n 29 with
      | true => ghB (rwAp 3 H)
      | false => match Nat.beq n 37 with
        | true => ghB (rwAp 11 H)
        | false => ocX T V H n
def ghL (T : Nat) (V : rdVt) : sxGh := fun H g => match g with
  | 0 => ghN (fun z => ∃ h : Nat, z = h ∧ ghP0 H h)
  | 1 => ghB (ghP1 H)
  | 2 => ghB (ghP2 H)
  | 3 => ghB (ghP3 H)
  | 4 => ghN (ghP4 H)
  | 5 => ghB (ghP5 T H)
  | 6 => ghB (ghP6 T H)
  | n + 7 => ghX T V H n
theorem gT_eq (T : Nat) (V : rdVt) : gT (ghL T V) = T := rfl
theorem ghB_iff {p : Prop} {v : Value} (h : ghB p = some v) : p ∧ v = .int 1 := by
  unfold ghB at h
  by_cases hp : p
  · rw [if_pos hp] at h
    cases h
    exact ⟨hp, rfl⟩
  · rw [if_neg hp] at h
    cases h
theorem ghB_of {p : Prop} (hp : p) : ghB p = some (.int 1) := by
  unfold ghB
  exact if_pos hp
theorem ghB_congr {p q : Prop} (h : p ↔ q) : ghB p = ghB q := by rw [propext h]
theorem ghN_of {p : Int → Prop} {z : Int} (hz : p z) (hu : ∀ y, p y → y = z) : ghN p = some (.int (Int32.ofInt z)) := by
  have hex : ∃ z, p z := ⟨z, hz⟩
  unfold ghN
  rw [dif_pos hex, hu _ (Classical.choose_spec hex)]
theorem ghN_iff {p : Int → Prop} {v : Value} (h : ghN p = some v) : ∃ z, p z ∧ v = .int (Int32.ofInt z) := by
  unfold ghN at h
  by_cases hex : ∃ z, p z
  · rw [dif_pos hex] at h
    cases h
    exact ⟨_, Classical.choose_spec hex, rfl⟩
  · rw [dif_neg hex] at h
    cases h
theorem ghN_congr {p q : Int → Prop} (h : ∀ z, p z ↔ q z) : ghN p = ghN q := by rw [show p = q from funext fun z => propext (h z)]
theorem ghP0_un {H : mjH} {h k : Nat} (e1 : ghP0 H h) (e2 : ghP0 H k) : h = k := by
  obtain ⟨a, b, -, rfl, rfl, -, -, -, h1⟩ := e1
  obtain ⟨a, b, -, rfl, rfl, -, -, -, h2⟩ := e2
  exact Option.some.inj (h1.symm.trans h2)
theorem ghP0_le {H : mjH} {h : Nat} (e : ghP0 H h) : h ≤ 220 := by
  obtain ⟨a, b, -, -, -, h1, h2, h3, h4⟩ := e
  have := ghH_le h4
  omega
theorem ghL0 {H : mjH} {v : Value} (h : (ghL T V) H 0 = some v) : ∃ h, ghP0 H h ∧ ∃ x : Int32, v = .int x ∧ x.toInt = h := by
  obtain ⟨z, ⟨k, rfl, hk⟩, rfl⟩ := ghN_iff h
  exact ⟨k, hk, _, rfl, i32_of (by omega) (by have := ghP0_le hk; omega)⟩
theorem ghL0_of {H : mjH} {h : Nat} (e : ghP0 H h) : ∃ x : Int32, (ghL T V) H 0 = some (.int x) ∧ x.toInt = h :=
  ⟨_, ghN_of (p := fun z => ∃ h : Nat, z = h ∧ ghP0 H h) ⟨h, rfl, e⟩ (by rintro y ⟨k, rfl, hk⟩; rw [ghP0_un hk e]), i32_of (by omega) (by have := ghP0_le e; omega)⟩
theorem ghL4 {H : mjH} {v : Value} (h : (ghL T V) H 4 = some v) : ∃ x : Int32, v = .int x ∧ x.toInt = ghV H 78 4 - ghV H 78 28 := by
  obtain ⟨z, ⟨h1, h2, h3⟩, rfl⟩ := ghN_iff h
  exact ⟨_, rfl, by rw [i32_of h2 h3, h1]⟩
theorem ghL4_of {H : mjH} {z : Int} (e : ghP4 H z) : ∃ x : Int32, (ghL T V) H 4 = some (.int x) ∧ x.toInt = z :=
  ⟨_, ghN_of e (fun y hy => hy.1.trans e.1.symm), i32_of e.2.1 e.2.2⟩
variable {σ : List Int} {B : sxB} {O : sxO} {G : sxG} {scr : Option (List Int32)} {H : mjH} {i j : Nat} {a b : sxV}
theorem gvG {g : Nat} : sxVw (ghL T V) scr 579 H 579 g = (ghL T V) H g := by
  unfold sxVw
  rw [if_neg (Nat.lt_irrefl _), if_pos rfl]
theorem gvE (hi : i < 579) : sxVw (ghL T V) scr 579 H i j = sxEl H i j := by
  unfold sxVw
  rw [if_pos hi]
  rfl
theorem gOl (hB : sxBR T σ B) (hO : sxOR (sxVw (ghL T V) scr 579 H) σ O) (h : sxOl O i (0, Int.ofNat j) = some a) : ∃ v, sxVw (ghL T V) scr 579 H i j = some v ∧ sxVR σ a v := by
  obtain ⟨z, v, h1, h2, h3, h4⟩ := hO _ (sxOl_mem h)
  have := sxN0 hB h1
  dsimp only at h3
  rw [show z.toNat = j by simp only [Int.ofNat_eq_natCast] at this; omega] at h3
  exact ⟨v, h3, h4⟩
/-- a number that is known by a symbol -/
theorem gOI {x : sxN} (hi : i < 579) (hB : sxBR T σ B) (hO : sxOR (sxVw (ghL T V) scr 579 H) σ O) (h : sxOl O i (0, Int.ofNat j) = some (.inr (false, x))) : sxNR σ x (ghV H i j) := by
  obtain ⟨v, h1, y, rfl, h2⟩ := gOl hB hO h
  rw [gvE hi] at h1
  unfold ghV
  rw [h1]
  exact h2
theorem gNum (hB : sxBR T σ B) (hO : sxOR (sxVw (ghL T V) scr 579 H) σ O) {v : Int} (h : sxNum B O i j = some v) : ∃ x : Int32, sxVw (ghL T V) scr 579 H i j = some (.int x) ∧ x.toInt = v := by
  unfold sxNum at h
  split at h
  · rename_i n hn
    obtain ⟨w, h1, x, rfl, h2⟩ := gOl hB hO hn
    have h3 := sxNm_ok hB h2
    split at h
    · rename_i u hu
      cases h
      rw [hu] at h3
      exact ⟨x, h1, sxN0 hB h3⟩
    · cases h
  · cases h
theorem gNumV (hi : i < 579) (hB : sxBR T σ B) (hO : sxOR (sxVw (ghL T V) scr 579 H) σ O) {v : Int} (h : sxNum B O i j = some v) : ghV H i j = v := by
  obtain ⟨x, h1, h2⟩ := gNum hB hO h
  rw [gvE hi] at h1
  unfold ghV
  rw [h1]
  exact h2
theorem gIs1 {g : Nat} (hB : sxBR T σ B) (hO : sxOR (sxVw (ghL T V) scr 579 H) σ O) (h : sxIs1 B O 579 g = true) : ∃ v, (ghL T V) H g = some v := by
  unfold sxIs1 at h
  split at h
  · rename_i v hv
    obtain ⟨x, h1, -⟩ := gNum hB hO hv
    rw [gvG] at h1
    exact ⟨_, h1⟩
  · cases h
theorem gLim {m : Nat} (hB : sxBR T σ B) (hO : sxOR (sxVw (ghL T V) scr 579 H) σ O) (h : sxLim B O j m = true) : ghV H 78 j ≤ m := by
  unfold sxLim at h
  split at h
  · rename_i v hv
    have h1 := gNumV (by omega) hB hO hv
    have h2 := Nat.le_of_ble_eq_true h
    rw [h1]
    simp only [Int.ofNat_eq_natCast]
    omega
  · cases h
theorem gSame {v w : Value} (hB : sxBR T σ B) (h : sxSameV B a b = true) (ha : sxVR σ a v) (hb : sxVR σ b w) : v = w ∧ ∃ x : Int32, v = .int x := by
  match a, b, h, ha, hb with
  | .inr (false, x), .inr (false, y), h, ha, hb =>
    obtain ⟨X, rfl, hx⟩ := ha
    obtain ⟨Y, rfl, hy⟩ := hb
    have e := sxSame_ok (show sxSame (sxNm B x) (sxNm B y) = true from h)
    have h1 := sxNm_ok hB hx
    rw [e] at h1
    have := Int32.toInt_inj.mp (sxNR.un h1 (sxNm_ok hB hy))
    subst this
    exact ⟨rfl, _, rfl⟩
theorem bltNo {a b : Nat} (h : Nat.blt a b = false) : b ≤ a := by
  rcases Nat.lt_or_ge a b with q | q
  · have : Nat.blt a b = true := Nat.ble_eq.mpr q
    rw [this] at h
    cases h
  · exact q
theorem beqOk {a b : Nat} (h : Nat.beq a b = true) : a = b := Nat.eq_of_beq_eq_true h
theorem beqNo {a b : Nat} (h : Nat.beq a b = false) : ¬ a = b := Nat.ne_of_beq_eq_false h
def ghQ (T : Nat) (H : mjH) (i : Nat) (X : Int) (g : Nat) : Prop := match g with
  | 0 => ¬ (i = 78 ∧ X = 26) ∧ ¬ (i = 78 ∧ X = 28) ∧ ¬ (107 ≤ i ∧ i < 117 ∧ X = 1) ∧ (339 ≤ i → i < 559 → ghV H 78 28 ≤ ((i - 339 : Nat) : Int))
  | 1 => ¬ (i = 78 ∧ X = 26) ∧ ¬ (i = 78 ∧ X = 28) ∧ (107 ≤ i → i < 117 → ghV H 78 26 ≤ ((i - 107 : Nat) : Int)) ∧ (339 ≤ i → i < 559 → ghV H 78 28 ≤ ((i - 339 : Nat) : Int))
  | 2 => ¬ (i = 78 ∧ X = 25) ∧ ¬ (96 ≤ i ∧ i < 106) ∧ ¬ (118 ≤ i ∧ i < 338)
  | 3 => ¬ (i = 82 ∧ X < 2) ∧ ¬ i = 86
  | 4 => ¬ (i = 78 ∧ X = 4) ∧ ¬ (i = 78 ∧ X = 28)
  | 5 => ¬ (i = 2 ∧ X < tLn T)
  | 6 => ¬ (i = 79 ∧ X < tLn T)
  | _ => True
theorem ghQ_out {X : Int} {g : Nat} (h1 : ¬ i = 78) (h2 : ¬ i = 82) (h3 : ¬ i = 86) (h4 : ¬ (96 ≤ i ∧ i < 106)) (h5 : ¬ (107 ≤ i ∧ i < 117)) (h6 : ¬ (118 ≤ i ∧ i < 338)) (h7 : ¬ (339 ≤ i ∧ i < 559)) (h8 : g = 5 → ¬ (i = 2 ∧ X < tLn T)) (h9 : g = 6 → ¬ (i = 79 ∧ X < tLn T)) : ghQ T H i X g := by
  unfold ghQ
  split
  · omega
  · omega
  · omega
  · omega
  · omega
  · exact h8 rfl
  · exact h9 rfl
  · trivial
theorem gXi {x : sxN} {X : Int} {f : Nat → List Nat} {d : List Nat} {g : Nat} (hB : sxBR T σ B) (hx : sxNR σ x X) (h0 : 0 ≤ X) (h : ¬ g ∈ sxXi x f d) (hd : ∀ n, g ∈ f n → g ∈ d) : ¬ g ∈ f X.toNat := by
  unfold sxXi at h
  split at h
  · rename_i n
    have := sxN0 hB hx
    rw [show X.toNat = n by simp only [Int.ofNat_eq_natCast] at this; omega]
    exact h
  · exact fun q => h (hd _ q)
theorem rwB_1 {p : Prop} (h : p) : rwB p = 1 := by
  unfold rwB
  exact if_pos h
theorem rwB_0 {p : Prop} (h : ¬ p) : rwB p = 0 := by
  unfold rwB
  exact if_neg h
theorem rwB_iff {p : Prop} (h : (rwB p).toInt = 1) : p := by
  by_cases q : p
  · exact q
  · rw [rwB_0 q] at h
    exact absurd h (by decide)
theorem rwB_congr {p q : Prop} (h : p ↔ q) : rwB p = rwB q := by rw [propext h]
theorem rwB_01 (p : Prop) : ((rwB p).toInt = 1 ∧ p) ∨ ((rwB p).toInt = 0 ∧ ¬ p) := by
  by_cases q : p
  · exact Or.inl ⟨by rw [rwB_1 q]; rfl, q⟩
  · exact Or.inr ⟨by rw [rwB_0 q]; rfl, q⟩
theorem rwGet_mem {g : Nat} {r : rwR} (h : rwGet g = some r) : r ∈ rwTab ∧ r.1 = g :=
  by
  have h' : rwTab.find? (fun r => Nat.beq r.1 g) = some r := h
  have h2 := List.find?_some h'
  exact ⟨List.mem_of_find?_eq_some h', Nat.eq_of_beq_eq_true h2⟩
/-- each row has its place -/
theorem rwGet_of {r : rwR} (h : r ∈ rwTab) : rwGet r.1 = some r ∧ (20 ≤ r.1 ∧ r.1 < 36) ∧ (r.2.1.1 < 579 ∧ r.2.2.1.1 < 579) ∧ ¬ r.2.2.1.1 = r.2.1.1 ∧ rwIn r.2.1.1 = true ∧ rwIn r.2.2.1.1 = true := by
  have key : rwTab.all (fun r => decide (rwGet r.1 = some r ∧ (20 ≤ r.1 ∧ r.1 < 36) ∧ (r.2.1.1 < 579 ∧ r.2.2.1.1 < 579) ∧ ¬ r.2.2.1.1 = r.2.1.1 ∧ rwIn r.2.1.1 = true ∧ rwIn r.2.2.1.1 = true)) = true := by decide +kernel
  exact of_decide_eq_true (List.all_eq_true.mp key r h)
theorem ghL_r {T : Nat} {V : rdVt} {H : mjH} {r : rwR} (h : r ∈ rwTab) : ghL T V H r.1 = some (.int (rwB (rwP T r H))) := by
  obtain ⟨h1, ⟨h2, h3⟩, -⟩ := rwGet_of h
  obtain ⟨n, hn⟩ : ∃ n, r.1 = n + 7 := ⟨r.1 - 7, by omega⟩
  rw [hn]
  show ghX T V H n = _
  unfold ghX
  have e1 : Nat.blt n 13 = false := by
    cases e : Nat.blt n 13 with
    | false => rfl
    | true => have := bltOk e; omega
  have e2 : Nat.blt n 29 = true := Nat.ble_eq.mpr (show n + 1 ≤ 29 by omega)
  rw [e1, e2]
  dsimp only
  unfold ghR
  rw [← hn, h1]
theorem ocPl_of {n : Nat} {r : ocTy} {b : Bool} (h : ocPl n = some (r, b)) : r ∈ ocTab ∧ (match b with | false => n + 7 = r.1.1 | true => n + 7 = r.1.2) := by
  unfold ocPl at h
  split at h
  · rename_i e
    cases h
    have := beqOk e
    subst this
    exact ⟨by decide, rfl⟩
  split at h
  · rename_i e
    cases h
    have := beqOk e
    subst this
    exact ⟨by decide, rfl⟩
  split at h
  · rename_i e
    cases h
    have := beqOk e
    subst this
    exact ⟨by decide, rfl⟩
  split at h
  · rename_i e
    cases h
    have := beqOk e
    subst this
    exact ⟨by decide, rfl⟩
  split at h
  · rename_i e
    cases h
    have := beqOk e
    subst this
    exact ⟨by decide, rfl⟩
  split at h
  · rename_i e
    cases h
    have := beqOk e
    subst this
    exact ⟨by decide, rfl⟩
  · cases h
theorem ghL_W {T : Nat} {V : rdVt} {H : mjH} {r : ocTy} (h : r ∈ ocTab) : ghL T V H r.1.1 = ghB (ocP r (tWk T) H) := by
  simp only [ocTab, List.mem_cons, List.not_mem_nil, or_false] at h
  rcases h with rfl | rfl | rfl <;> rfl
theorem ghL_O {T : Nat} {V : rdVt} {H : mjH} {r : ocTy} (h : r ∈ ocTab) : ghL T V H r.1.2 = ghB (ocA r H) := by
  simp only [ocTab, List.mem_cons, List.not_mem_nil, or_false] at h
  rcases h with rfl | rfl | rfl <;> rfl
def ocQ (r : ocTy) (i : Nat) (X : Int) : Prop := (¬ i = r.2.2.1.1 ∧ ¬ i = r.2.2.1.2.1) ∧ ¬ (i = r.2.1.1 ∧ (X = 0 ∨ X = r.2.1.2))
theorem ocNe {r : ocTy} (h : r ∈ ocTab) : ¬ r.2.2.1.2.2 = r.2.1.1 := by
  simp only [ocTab, List.mem_cons, List.not_mem_nil, or_false] at h
  rcases h with rfl | rfl | rfl <;> decide
theorem ocK1_ok {x : sxN} {X : Int} {r : ocTy} {b : Bool} (hr : r ∈ ocTab) (hB : sxBR T σ B) (hx : sxNR σ x X) (h : ¬ (match b with | false => r.1.1 | true => r.1.2) ∈ ocK1 B i x r) : ocQ r i X ∧ (i = r.2.2.1.2.2 → b = false ∧ ¬ X = tWk T) := by
  have both : (match (generalizing := false) b with | false => r.1.1 | true => r.1.2) ∈ [r.1.1, r.1.2] := by cases b <;> simp
  unfold ocK1 at h
  split at h
  · exact absurd both h
  rename_i e1
  rw [Bool.or_eq_false_iff] at e1
  have n1 := beqNo e1.1
  have n2 := beqNo e1.2
  split at h
  · rename_i e2
    have e2 := beqOk e2
    split at h
    · rename_i ea
      split at ea
      · rename_i w hw
        have hw := sxG1_ok hB hw (sxNR.c0 hB 0)
        have hne := sxApart_ok hB ea hx hw
        have hb : b = false := by
          cases b with
          | false => rfl
          | true => exact absurd (List.mem_singleton.mpr rfl) h
        refine ⟨⟨⟨n1, n2⟩, ?_⟩, fun _ => ⟨hb, hne⟩⟩
        rintro ⟨e3, -⟩
        exact ocNe hr (e2.symm.trans e3)
      · cases ea
    · exact absurd both h
  rename_i e2
  have n3 := beqNo e2
  split at h
  · rename_i e3
    have e3 := beqOk e3
    split at h
    · rename_i ex
      have hx' : x = (0, x.2) := Prod.ext ex rfl
      rw [hx'] at hx
      have hX := sxN0 hB hx
      split at h
      · exact absurd both h
      · rename_i e4
        rw [Bool.or_eq_false_iff] at e4
        refine ⟨⟨⟨n1, n2⟩, ?_⟩, fun e => absurd e n3⟩
        rintro ⟨-, e5 | e5⟩
        · rw [← hX, e5] at e4
          exact absurd e4.1 (by rw [iEq_self]; decide)
        · rw [← hX, e5] at e4
          exact absurd e4.2 (by rw [show ((r.2.1.2 : Nat) : Int) = Int.ofNat r.2.1.2 from rfl, iEq_self]; decide)
    · exact absurd both h
  · rename_i e3
    have n4 := beqNo e3
    exact ⟨⟨⟨n1, n2⟩, fun hc => n4 hc.1⟩, fun e => absurd e n3⟩
theorem ocKill_ok {x : sxN} {X : Int} {g : Nat} (hB : sxBR T σ B) (hx : sxNR σ x X) (h : ¬ g ∈ rwKill B O i x) : ∀ (n : Nat) (r : ocTy) (b : Bool), g = n + 7 → ocPl n = some (r, b) → ocQ r i X ∧ (i = r.2.2.1.2.2 → b = false ∧ ¬ X = tWk T) := by
  intro n r b hn hp
  obtain ⟨hr, hg⟩ := ocPl_of hp
  by_cases hi : rwIn i = true
  · refine ocK1_ok hr hB hx fun hm => h ?_
    unfold rwKill
    rw [hi]
    refine List.mem_append_right _ (List.mem_append_right _ (List.mem_flatMap.mpr ⟨r, hr, ?_⟩))
    rw [hn]
    cases b with
    | false =>
      rw [show n + 7 = r.1.1 from hg]
      exact hm
    | true =>
      rw [show n + 7 = r.1.2 from hg]
      exact hm
  · have key : ∀ r ∈ ocTab, rwIn r.2.2.1.1 = true ∧ rwIn r.2.2.1.2.1 = true ∧ rwIn r.2.2.1.2.2 = true ∧ rwIn r.2.1.1 = true := by
      intro r hr
      simp only [ocTab, List.mem_cons, List.not_mem_nil, or_false] at hr
      rcases hr with rfl | rfl | rfl <;> exact ⟨rfl, rfl, rfl, rfl⟩
    obtain ⟨k1, k2, k3, k4⟩ := key r hr
    exact ⟨⟨⟨fun e => hi (e ▸ k1), fun e => hi (e ▸ k2)⟩, fun e => hi (e.1 ▸ k4)⟩, fun e => absurd (e ▸ k3) hi⟩
def rwQ (r : rwR) (H : mjH) (i : Nat) (X : Int) : Prop := ¬ (i = r.2.1.1 ∧ X = r.2.1.2) ∧ (i = r.2.2.1.1 → X < r.2.2.1.2 ∨ ghV H r.2.1.1 r.2.1.2 + r.2.2.1.2 ≤ X)
theorem rwAk_ok {x : sxN} {X : Int} {k g : Nat} (hg : (k = 3 ∧ g = 36) ∨ (k = 11 ∧ g = 44)) (hB : sxBR T σ B) (hx : sxNR σ x X) (h : ¬ g ∈ rwKill B O i x) : ¬ (i = k ∧ X ≤ 1) := by
  rintro ⟨rfl, h1⟩
  refine h ?_
  have e1 : rwIn i = true := by rcases hg with ⟨rfl, -⟩ | ⟨rfl, -⟩ <;> rfl
  have e2 : g ∈ rwAk i x := by
    have e3 : ∃ g', rwAg i = g' + 1 ∧ g = g' + 1 := by rcases hg with ⟨rfl, rfl⟩ | ⟨rfl, rfl⟩ <;> exact ⟨_, rfl, rfl⟩
    obtain ⟨g', e3, e4⟩ := e3
    unfold rwAk
    rw [e3]
    dsimp only
    split
    · rename_i ex
      have hx' : x = (0, x.2) := Prod.ext ex rfl
      rw [hx'] at hx
      have := sxN0 hB hx
      rw [iLe_iff.mpr (show x.2 ≤ 1 by omega), e4]
      exact List.mem_singleton.mpr rfl
    · rw [e4]
      exact List.mem_singleton.mpr rfl
  unfold rwKill
  rw [e1]
  exact List.mem_append_right _ (List.mem_append_left _ e2)
theorem rwKill_ok {x : sxN} {X : Int} {r : rwR} (hr : r ∈ rwTab) (hB : sxBR T σ B) (hO : sxOR (sxVw (ghL T V) scr 579 H) σ O) (hx : sxNR σ x X) (h : ¬ r.1 ∈ rwKill B O i x) : rwQ r H i X := by
  obtain ⟨h1, -, ⟨c1, c2⟩, hne, i1, i2⟩ := rwGet_of hr
  have hk : i = r.2.1.1 ∨ i = r.2.2.1.1 → rwK1 B O i x r = false := by
    intro hi
    cases e : rwK1 B O i x r with
    | false => rfl
    | true =>
      refine absurd ?_ h
      unfold rwKill
      have : rwIn i = true := by rcases hi with rfl | rfl <;> assumption
      rw [this]
      exact List.mem_append_left _ (List.mem_map.mpr ⟨r, List.mem_filter.mpr ⟨hr, e⟩, rfl⟩)
  constructor
  · rintro ⟨e1, e2⟩
    have h2 := hk (Or.inl e1)
    unfold rwK1 at h2
    split at h2
    · rename_i e
      exact hne ((beqOk e).symm.trans e1)
    · split at h2
      · split at h2
        · rename_i ex
          have hx' : x = (0, x.2) := Prod.ext ex rfl
          rw [hx'] at hx
          have := sxN0 hB hx
          rw [← this, e2, show iEq ((r.2.1.2 : Nat) : Int) (Int.ofNat r.2.1.2) = true from iEq_self _] at h2
          cases h2
        · cases h2
      · rename_i e
        rw [e1, Nat.beq_refl] at e
        cases e
  · intro e1
    have h2 := hk (Or.inr e1)
    unfold rwK1 at h2
    split at h2
    · split at h2
      · rename_i hlt
        split at hlt
        · cases hlt
        · rename_i w hw
          have := sxLe_ok hB hlt hx (sxNR.c0 hB (Int.ofNat w))
          refine Or.inl ?_
          rw [hw]
          simp only [Int.ofNat_eq_natCast] at this
          omega
      · split at h2
        · rename_i v hv
          split at h2
          · rename_i hle
            have hv := gOI c1 hB hO hv
            have := sxLe_ok hB hle (sxNR.off hv _) hx
            refine Or.inr ?_
            simp only [Int.ofNat_eq_natCast] at this
            omega
          · cases h2
        · cases h2
    · rename_i e
      rw [e1, Nat.beq_refl] at e
      cases e
theorem ghKill {x : sxN} {X : Int} {g : Nat} (hB : sxBR T σ B) (hO : sxOR (sxVw (ghL T V) scr 579 H) σ O) (hx : sxNR σ x X) (h0 : 0 ≤ X) (h : ¬ g ∈ sxKill0 B O i x) : ghQ T H i X g := by
  unfold sxKill0 at h
  split at h
  · rename_i c
    have c := bltOk c
    refine ghQ_out (by omega) (by omega) (by omega) (by omega) (by omega) (by omega) (by omega) (fun e => ?_) (by omega)
    rintro ⟨e2, e3⟩
    subst e e2
    dsimp only [Nat.beq] at h
    split at h
    · rename_i hp
      have := sxPast_ok hB hx hp
      omega
    · exact h (List.mem_singleton.mpr rfl)
  rename_i c0
  have c0 := bltNo c0
  split at h
  · rename_i c
    have c := beqOk c
    have h := gXi hB hx h0 h (fun n hn => by
      split at hn
      · simp at hn; simp [hn]
      · split at hn
        · simp at hn; rcases hn with hn | hn <;> simp [hn]
        · split at hn
          · simp at hn; rcases hn with hn | hn | hn <;> simp [hn]
          · split at hn
            · simp at hn; simp [hn]
            · cases hn)
    have key : ∀ n : Nat, g ∈ (match Nat.beq X.toNat 25 with | true => [2] | false => match Nat.beq X.toNat 26 with | true => [0, 1] | false => match Nat.beq X.toNat 28 with | true => [0, 1, 4] | false => match Nat.beq X.toNat 4 with | true => [4] | false => []) → False := fun _ => h
    have e25 : X = 25 → g ≠ 2 := fun e q => key 0 (by rw [e, q]; decide)
    have e26 : X = 26 → g ≠ 0 ∧ g ≠ 1 := fun e => ⟨fun q => key 0 (by rw [e, q]; decide), fun q => key 0 (by rw [e, q]; decide)⟩
    have e28 : X = 28 → g ≠ 0 ∧ g ≠ 1 ∧ g ≠ 4 := fun e => ⟨fun q => key 0 (by rw [e, q]; decide), fun q => key 0 (by rw [e, q]; decide), fun q => key 0 (by rw [e, q]; decide)⟩
    have e4 : X = 4 → g ≠ 4 := fun e q => key 0 (by rw [e, q]; decide)
    unfold ghQ
    split <;> first | trivial | omega
  rename_i c1
  have c1 := beqNo c1
  split at h
  · rename_i c2
    have c2 := bltOk c2
    split at h
    · rename_i c3
      have c3 := beqOk c3
      have h := gXi hB hx h0 h (fun n hn => by
        split at hn
        · exact hn
        · cases hn)
      have e2 : X < 2 → g ≠ 3 := fun e q => h (by
        have : Nat.blt X.toNat 2 = true := Nat.ble_eq.mpr (by omega)
        rw [this, q]
        decide)
      unfold ghQ
      split <;> first | trivial | omega
    · rename_i c3
      have c3 := beqNo c3
      split at h
      · rename_i c4
        have c4 := beqOk c4
        have : g ≠ 3 := fun q => h (by rw [q]; decide)
        unfold ghQ
        split <;> first | trivial | omega
      · rename_i c4
        have c4 := beqNo c4
        refine ghQ_out (by omega) (by omega) (by omega) (by omega) (by omega) (by omega) (by omega) (by omega) (fun e => ?_)
        rintro ⟨e2, e3⟩
        subst e e2
        dsimp only [Nat.beq] at h
        split at h
        · rename_i hp
          have := sxPast_ok hB hx hp
          omega
        · exact h (List.mem_singleton.mpr rfl)
  rename_i c2
  have c2 := bltNo c2
  split at h
  · rename_i c3
    have c3 := bltOk c3
    have : g ≠ 2 := fun q => h (by rw [q]; decide)
    unfold ghQ
    split <;> first | trivial | omega
  rename_i c3
  have c3 := bltNo c3
  split at h
  · rename_i c4
    have c4 := bltOk c4
    split at h
    · rename_i hl
      have hl := gLim hB hO hl
      have h := gXi hB hx h0 h (fun n hn => by
        split at hn
        · exact hn
        · cases hn)
      have e1 : X = 1 → g ≠ 0 := fun e q => h (by rw [e, q]; decide)
      unfold ghQ
      split <;> first | trivial | omega
    · have e0 : g ≠ 0 := fun q => h (by rw [q]; decide)
      have e1 : g ≠ 1 := fun q => h (by rw [q]; decide)
      unfold ghQ
      split <;> first | trivial | omega
  rename_i c4
  have c4 := bltNo c4
  split at h
  · rename_i c5
    have c5 := bltOk c5
    have : g ≠ 2 := fun q => h (by rw [q]; decide)
    unfold ghQ
    split <;> first | trivial | omega
  rename_i c5
  have c5 := bltNo c5
  split at h
  · rename_i c6
    have c6 := bltOk c6
    split at h
    · rename_i hl
      have hl := gLim hB hO hl
      unfold ghQ
      split <;> first | trivial | omega
    · have e0 : g ≠ 0 := fun q => h (by rw [q]; decide)
      have e1 : g ≠ 1 := fun q => h (by rw [q]; decide)
      unfold ghQ
      split <;> first | trivial | omega
  · rename_i c6
    have c6 := bltNo c6
    exact ghQ_out (by omega) (by omega) (by omega) (by omega) (by omega) (by omega) (by omega) (by omega) (by omega)
/-- elsewhere nothing changes -/
theorem gSet {t p q : Nat} {vs : List Value} {w : Value} (hi : H[i]? = some (t, vs)) (h : ¬ (p = i ∧ q = j)) : sxEl (H.set i (t, vs.set j w)) p q = sxEl H p q := by
  have hil := (List.getElem?_eq_some_iff.mp hi).1
  unfold sxEl
  by_cases hai : i = p
  · subst hai
    rw [List.getElem?_set_self hil, hi]
    dsimp only
    rw [List.getElem?_set_ne (fun e => h ⟨rfl, e.symm⟩)]
  · rw [List.getElem?_set_ne hai]
theorem gSetV {t p q : Nat} {vs : List Value} {w : Value} (hi : H[i]? = some (t, vs)) (h : ¬ (p = i ∧ q = j)) : ghV (H.set i (t, vs.set j w)) p q = ghV H p q := by
  unfold ghV
  rw [gSet hi h]
theorem gSetS {t : Nat} {vs : List Value} {w : Value} (hi : H[i]? = some (t, vs)) (hj : j < vs.length) : sxEl (H.set i (t, vs.set j w)) i j = some w := by
  have hil := (List.getElem?_eq_some_iff.mp hi).1
  unfold sxEl
  rw [List.getElem?_set_self hil]
  exact List.getElem?_set_self hj
theorem ghOk_congr {c d : Nat → Int} {a b : Int} (h : ∀ i : Nat, (i : Int) < b → i < 220 → c i = d i) : ghOk c a b ↔ ghOk d a b := by
  unfold ghOk
  constructor
  · rintro ⟨h1, h2, h3, k, h4⟩
    exact ⟨h1, h2, h3, k, by rw [← ghH_congr (c := c) (fun i q1 q2 => h i (by omega) (by omega))]; exact h4⟩
  · rintro ⟨h1, h2, h3, k, h4⟩
    exact ⟨h1, h2, h3, k, by rw [ghH_congr (d := d) (fun i q1 q2 => h i (by omega) (by omega))]; exact h4⟩
/-- a row's indicator stays -/
theorem gSameR {t : Nat} {vs : List Value} {w : Value} {X : Int} {r : rwR} (h0 : 0 ≤ X) (hi : H[i]? = some (t, vs)) (hq : rwQ r H i X) : rwP T r (H.set i (t, vs.set X.toNat w)) ↔ rwP T r H := by
  obtain ⟨q1, q2⟩ := hq
  have e1 : ghV (H.set i (t, vs.set X.toNat w)) r.2.1.1 r.2.1.2 = ghV H r.2.1.1 r.2.1.2 := gSetV hi (fun hc => q1 ⟨hc.1.symm, by have := hc.2; omega⟩)
  have e2 : ∀ k : Nat, (k : Int) < ghV H r.2.1.1 r.2.1.2 → rwEl (H.set i (t, vs.set X.toNat w)) r.2.2.1.1 (r.2.2.1.2 + k) = rwEl H r.2.2.1.1 (r.2.2.1.2 + k) := by
    intro k hk
    unfold rwEl
    rw [gSet hi (fun hc => by have := q2 hc.1.symm; have := hc.2; omega)]
  unfold rwP
  rw [e1]
  exact ⟨fun h k k1 k2 => by rw [← e2 k k2]; exact h k k1 k2, fun h k k1 k2 => by rw [e2 k k2]; exact h k k1 k2⟩
theorem gSameA {t : Nat} {vs : List Value} {w : Value} {X : Int} {k : Nat} (h0 : 0 ≤ X) (hi : H[i]? = some (t, vs)) (hq : ¬ (i = k ∧ X ≤ 1)) : rwAp k (H.set i (t, vs.set X.toNat w)) ↔ rwAp k H := by
  have e1 : ghV (H.set i (t, vs.set X.toNat w)) k 0 = ghV H k 0 := gSetV hi (fun hc => hq ⟨hc.1.symm, by have := hc.2; omega⟩)
  have e2 : rwEl (H.set i (t, vs.set X.toNat w)) k 1 = rwEl H k 1 := by
    unfold rwEl
    rw [gSet hi (fun hc => hq ⟨hc.1.symm, by have := hc.2; omega⟩)]
  unfold rwAp
  rw [e1, e2]
theorem gSameZ {t : Nat} {vs : List Value} {w : Value} {X : Int} {p q : Nat} (hi : H[i]? = some (t, vs)) (h : ¬ (p = i ∧ q = X.toNat)) : rwEl (H.set i (t, vs.set X.toNat w)) p q = rwEl H p q := by
  unfold rwEl
  rw [gSet hi h]
theorem ocW_set {t : Nat} {vs : List Value} {w : Value} {X u : Int} {r : ocTy} (h0 : 0 ≤ X) (hi : H[i]? = some (t, vs)) (hq : ocQ r i X) : ∀ k, ocW r u (H.set i (t, vs.set X.toNat w)) k = ocW r u H k
  | 0 => by
    show tAll (ghV (H.set i (t, vs.set X.toNat w)) r.2.1.1 0) = tAll (ghV H r.2.1.1 0)
    rw [gSetV hi (fun hc => hq.2 ⟨hc.1.symm, Or.inl (by have := hc.2; omega)⟩)]
  | k + 1 => by
    have e1 : rwZ (H.set i (t, vs.set X.toNat w)) r.2.2.1.1 k = rwZ H r.2.2.1.1 k := by
      unfold rwZ
      rw [gSameZ hi (fun hc => hq.1.1 hc.1.symm)]
    have e2 : rwZ (H.set i (t, vs.set X.toNat w)) r.2.2.1.2.1 k = rwZ H r.2.2.1.2.1 k := by
      unfold rwZ
      rw [gSameZ hi (fun hc => hq.1.2 hc.1.symm)]
    unfold ocW
    rw [e1, e2, ocW_set h0 hi hq k]
theorem gSameO {t : Nat} {vs : List Value} {w : Value} {X u : Int} {r : ocTy} (h0 : 0 ≤ X) (hu : 0 ≤ u) (hi : H[i]? = some (t, vs)) (hq : ocQ r i X) (hl : i = r.2.2.1.2.2 → ¬ X = u) : ocP r u (H.set i (t, vs.set X.toNat w)) ↔ ocP r u H := by
  unfold ocP
  rw [ocW_set h0 hi hq, gSameZ hi (fun hc => hl hc.1.symm (by have := hc.2; omega)), gSetV hi (fun hc => hq.2 ⟨hc.1.symm, Or.inr (by have := hc.2; omega)⟩)]
theorem tWk_rg (T : Nat) : 0 ≤ tWk T ∧ tWk T ≤ 51 := tCl_rg (by decide)
theorem cmB_no : ∀ {H : mjH}, H.length = 579 → cmB T H = none
  | [], _ => rfl
  | e :: H, h => if_neg (fun e2 => by rw [List.length_cons, e2] at h; exact absurd h (by decide))
theorem cmB_at {s : Nat} (hl : H.length = 579) : cmB T ((s, []) :: H) = ghB (cmQ T s H) := if_pos hl
theorem cmSame {t s : Nat} {vs : List Value} {w : Value} {X : Int} (hi : H[i]? = some (t, vs)) (hl : H.length = 579) (hs : i = 46 → s ≤ X.toNat) : (ghL T V) ((s, []) :: H.set i (t, vs.set X.toNat w)) 1001 = (ghL T V) ((s, []) :: H) 1001 := by
  have l1 : (H.set i (t, vs.set X.toNat w)).length = 579 := by rw [List.length_set, hl]
  have e : ∀ k, k < s → rwEl (H.set i (t, vs.set X.toNat w)) 46 k = rwEl H 46 k := fun k hk => gSameZ hi (fun hc => by
    have h1 := hs hc.1.symm
    have h2 := hc.2
    omega)
  show cmB T ((s, []) :: H.set i (t, vs.set X.toNat w)) = cmB T ((s, []) :: H)
  rw [cmB_at l1, cmB_at hl]
  refine ghB_congr ?_
  unfold cmQ
  exact ⟨fun h k hk => by rw [← e k hk]; exact h k hk, fun h k hk => by rw [e k hk]; exact h k hk⟩
theorem gSameX {t : Nat} {vs : List Value} {w : Value} {X : Int} {n : Nat} (hl : H.length = 579) (h0 : 0 ≤ X) (hi : H[i]? = some (t, vs)) (hq : ∀ r, rwGet (n + 7) = some r → rwQ r H i X) (ha3 : n = 29 → ¬ (i = 3 ∧ X ≤ 1)) (ha11 : n = 37 → ¬ (i = 11 ∧ X ≤ 1)) (ho : ∀ (r : ocTy) (b : Bool), ocPl n = some (r, b) → ocQ r i X ∧ (i = r.2.2.1.2.2 → b = false ∧ ¬ X = tWk T)) : ghX T V (H.set i (t, vs.set X.toNat w)) n = ghX T V H n := by
  unfold ghX
  split
  · rfl
  · split
    · unfold ghR
      split
      · rename_i r hr
        rw [rwB_congr (gSameR h0 hi (hq r hr))]
      · rfl
    · split
      · rename_i e
        exact ghB_congr (gSameA h0 hi (ha3 (beqOk e)))
      · split
        · rename_i e
          exact ghB_congr (gSameA h0 hi (ha11 (beqOk e)))
        · unfold ocX
          split
          · rename_i r hr
            obtain ⟨q1, q2⟩ := ho _ _ hr
            exact ghB_congr (gSameO h0 (tWk_rg T).1 hi q1 (fun e => (q2 e).2))
          · rename_i r hr
            obtain ⟨q1, q2⟩ := ho _ _ hr
            refine ghB_congr ?_
            unfold ocA
            have hn : ¬ i = r.2.2.1.2.2 := fun e => by have := (q2 e).1; cases this
            exact ⟨fun h w hw => (gSameO h0 (by omega) hi q1 (fun e => absurd e hn)).mp (h w hw), fun h w hw => (gSameO h0 (by omega) hi q1 (fun e => absurd e hn)).mpr (h w hw)⟩
          · unfold cmX
            split
            · rw [cmB_no (by rw [List.length_set, hl]), cmB_no hl]
            · rfl
theorem gSame1 {t : Nat} {vs : List Value} {w : Value} {X : Int} {g : Nat} (hl : H.length = 579) (h0 : 0 ≤ X) (hi : H[i]? = some (t, vs)) (hq : ghQ T H i X g) (hr : ∀ r, rwGet g = some r → rwQ r H i X) (ha3 : g = 36 → ¬ (i = 3 ∧ X ≤ 1)) (ha11 : g = 44 → ¬ (i = 11 ∧ X ≤ 1)) (ho : ∀ (n : Nat) (r : ocTy) (b : Bool), g = n + 7 → ocPl n = some (r, b) → ocQ r i X ∧ (i = r.2.2.1.2.2 → b = false ∧ ¬ X = tWk T)) : (ghL T V) (H.set i (t, vs.set X.toNat w)) g = (ghL T V) H g := by
  have V : ∀ {p q : Nat}, ¬ (p = i ∧ q = X.toNat) → ghV (H.set i (t, vs.set X.toNat w)) p q = ghV H p q := fun h => gSetV hi h
  match g, hq with
  | 0, ⟨q1, q2, q3, q4⟩ =>
    refine ghN_congr fun z => ?_
    have e1 := V (p := 78) (q := 26) (by omega)
    have e2 := V (p := 78) (q := 28) (by omega)
    have key : ∀ h, ghP0 (H.set i (t, vs.set X.toNat w)) h ↔ ghP0 H h := by
      intro h
      unfold ghP0
      rw [e1, e2]
      constructor
      · rintro ⟨a, b, r, ha, hb, h1, h2, h3, h4⟩
        rw [V (p := 107 + (ghV H 78 26).toNat) (q := 1) (by omega)] at ha
        refine ⟨a, b, r, ha, hb, h1, h2, h3, ?_⟩
        rw [← h4]
        exact ghH_congr fun k k1 k2 => (V (p := 339 + k) (q := 0) (fun hc => by have := q4 (by omega) (by omega); omega)).symm
      · rintro ⟨a, b, r, ha, hb, h1, h2, h3, h4⟩
        refine ⟨a, b, r, by rw [V (p := 107 + (ghV H 78 26).toNat) (q := 1) (by omega)]; exact ha, hb, h1, h2, h3, ?_⟩
        rw [← h4]
        exact ghH_congr fun k k1 k2 => V (p := 339 + k) (q := 0) (fun hc => by have := q4 (by omega) (by omega); omega)
    exact ⟨fun ⟨h, e, k⟩ => ⟨h, e, (key h).mp k⟩, fun ⟨h, e, k⟩ => ⟨h, e, (key h).mpr k⟩⟩
  | 1, ⟨q1, q2, q3, q4⟩ =>
    refine ghB_congr ?_
    have e1 := V (p := 78) (q := 26) (by omega)
    have e2 := V (p := 78) (q := 28) (by omega)
    unfold ghP1
    rw [e1, e2]
    have row : ∀ k : Nat, k < 10 → (k : Int) < ghV H 78 26 → ∀ q, ghV (H.set i (t, vs.set X.toNat w)) (107 + k) q = ghV H (107 + k) q := fun k k1 k2 q => V (fun hc => by have := q3 (by omega) (by omega); omega)
    have cds : ∀ k : Nat, k < 220 → (k : Int) < ghV H 78 28 → ghRc (H.set i (t, vs.set X.toNat w)) k = ghRc H k := fun k k1 k2 => V (p := 339 + k) (q := 0) (fun hc => by have := q4 (by omega) (by omega); omega)
    constructor
    · intro h k k1 k2
      have := h k k1 k2
      rw [row k k1 k2, row k k1 k2] at this
      exact ⟨(ghOk_congr fun i i1 i2 => cds i i2 (by omega)).mp this.1, this.2⟩
    · intro h k k1 k2
      have := h k k1 k2
      rw [row k k1 k2, row k k1 k2]
      exact ⟨(ghOk_congr fun i i1 i2 => cds i i2 (by omega)).mpr this.1, this.2⟩
  | 2, ⟨q1, q2, q3⟩ =>
    refine ghB_congr ?_
    have e1 := V (p := 78) (q := 25) (by omega)
    unfold ghP2
    rw [e1]
    have row : ∀ k : Nat, k < 10 → ∀ q, ghV (H.set i (t, vs.set X.toNat w)) (96 + k) q = ghV H (96 + k) q := fun k k1 q => V (fun hc => by omega)
    have cds : ∀ k : Nat, k < 220 → ghCc (H.set i (t, vs.set X.toNat w)) k = ghCc H k := fun k k1 => V (p := 118 + k) (q := 0) (fun hc => by omega)
    constructor
    · intro h k k1 k2
      have := h k k1 k2
      rw [row k k1, row k k1] at this
      exact (ghOk_congr fun i i1 i2 => cds i i2).mp this
    · intro h k k1 k2
      have := h k k1 k2
      rw [row k k1, row k k1]
      exact (ghOk_congr fun i i1 i2 => cds i i2).mpr this
  | 3, ⟨q1, q2⟩ =>
    refine ghB_congr ?_
    unfold ghP3
    rw [V (p := 82) (q := 0) (by omega), V (p := 82) (q := 1) (by omega)]
    have cel : ∀ k, sxEl (H.set i (t, vs.set X.toNat w)) 86 k = sxEl H 86 k := fun k => gSet hi (by omega)
    constructor
    · intro h l k v hk hv
      exact h l k v hk (by rw [cel]; exact hv)
    · intro h l k v hk hv
      exact h l k v hk (by rw [← cel]; exact hv)
  | 4, ⟨q1, q2⟩ =>
    refine ghN_congr fun z => ?_
    unfold ghP4
    rw [V (p := 78) (q := 4) (by omega), V (p := 78) (q := 28) (by omega)]
  | 5, q1 =>
    refine ghB_congr ?_
    have cel : ∀ k : Nat, k < tLn T → sxEl (H.set i (t, vs.set X.toNat w)) 2 k = sxEl H 2 k := fun k hk => gSet hi (fun hc => q1 ⟨hc.1.symm, by have := hc.2; omega⟩)
    unfold ghP5
    constructor
    · intro h k hk
      rw [← cel k hk]
      exact h k hk
    · intro h k hk
      rw [cel k hk]
      exact h k hk
  | 6, q1 =>
    refine ghB_congr ?_
    have cel : ∀ k : Nat, k < tLn T → sxEl (H.set i (t, vs.set X.toNat w)) 79 k = sxEl H 79 k := fun k hk => gSet hi (fun hc => q1 ⟨hc.1.symm, by have := hc.2; omega⟩)
    unfold ghP6
    constructor
    · intro h k hk
      rw [← cel k hk]
      exact h k hk
    · intro h k hk
      rw [cel k hk]
      exact h k hk
  | n + 7, _ => exact gSameX hl h0 hi hr (fun e => ha3 (by omega)) (fun e => ha11 (by omega)) (fun r b hp => ho n r b rfl hp)
end GHOST

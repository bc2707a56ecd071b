/-! SX: rules of facts: numbers capped twice, words of a code, what is read -/
noncomputable section SXRUM
variable {T : Nat} {σ : List Int} {B : sxB} {x y t : sxN} {X Y Z : Int}
theorem tRun_all {f : Int → Bool} : ∀ {n : Nat} {p : Int} {i : Nat}, (i : Int) < tRun f n p - p → f (p + i) = true
  | 0, p, i, h => by
    unfold tRun at h
    omega
  | n + 1, p, i, h => by
    unfold tRun at h
    split at h
    · rename_i hf
      cases i with
      | zero => simpa using hf
      | succ i =>
        have := tRun_all (f := f) (n := n) (p := p + 1) (i := i) (by omega)
        rw [show p + ((i + 1 : Nat) : Int) = p + 1 + i by omega]
        exact this
    · omega
theorem tVl_cap {c1 c2 : Int} {p : Int} (h1 : 0 ≤ c1) (h2 : c1 ≤ c2) : ∀ {k : Nat}, (∀ i, i < k → tDg T (p + (i : Nat)) = true) → (0 ≤ tVl T c2 p k ∧ tVl T c2 p k ≤ c2) ∧ tVl T c1 p k = if tVl T c2 p k ≤ c1 then tVl T c2 p k else c1
  | 0, _ => by
    unfold tVl
    rw [if_pos h1]
    omega
  | k + 1, hd => by
    obtain ⟨⟨a1, a2⟩, a3⟩ := tVl_cap h1 h2 (k := k) (fun i hi => hd i (by omega))
    have hk := hd k (by omega)
    simp only [tDg, Bool.and_eq_true, decide_eq_true_eq] at hk
    unfold tVl
    rw [a3]
    split <;> split <;> (try split) <;> omega
theorem tNv_cap {p : Int} (h0 : 0 ≤ p) (h1 : p ≤ 600) : (0 ≤ tNv T 1000000 p ∧ tNv T 1000000 p ≤ 1000000) ∧ tNv T 100000 p = if tNv T 1000000 p ≤ 100000 then tNv T 1000000 p else 100000 := by
  have e : tNe T p = tRun (tDg T) 601 p := tIn_eq h0 h1
  have hge := tRun_ge (f := tDg T) (n := 601) (p := p)
  have hall : ∀ i, i < (tNe T p - p).toNat → tDg T (p + (i : Nat)) = true := fun i hi => tRun_all (n := 601) (by rw [← e]; omega)
  obtain ⟨⟨a1, a2⟩, a3⟩ := tVl_cap (c1 := 100000) (c2 := 1000000) (by decide) (by decide) hall
  unfold tNv
  rw [tCl_id a1 a2, a3]
  refine ⟨⟨a1, a2⟩, ?_⟩
  split
  · exact tCl_id a1 (by assumption)
  · exact tCl_id (by decide) (by decide)
/-- a number capped at less -/
def sxR4 (B : sxB) (p x : sxN) : sxB := match sxInP B p with
  | false => B
  | true => match sxG1 B 48 p with
    | none => B
    | some y => (fun B1 => match sxLe B1 x (0, 100000) 0 with
      | true => sxEqX B1 y x
      | false => match sxLe B1 y (0, 99999) 0 with
      | true => sxEqX B1 y x
      | false => match sxRg B1 x with
        | some r => (match iLe 100000 r.1 with
          | true => sxEqX B1 y (0, 100000)
          | false => sxLeX B1 (0, r.1) y 0)
        | none => B1) (sxLeX B y x 0)
theorem sxR4_ok {p : sxN} {P : Int} (hB : sxBR T σ B) (hp : sxNR σ p P) (hx : sxNR σ x (tNv T 1000000 P)) : sxBR T σ (sxR4 B p x) := by
  unfold sxR4
  split
  · exact hB
  rename_i hin
  obtain ⟨p0, p1⟩ := sxInP_ok hB hin hp
  obtain ⟨a1, a2⟩ := tNv_cap (T := T) p0 p1
  split
  · exact hB
  rename_i y hy
  have hy : sxNR σ y (tNv T 100000 P) := sxG1_ok hB hy hp
  have hle : tNv T 100000 P - tNv T 1000000 P ≤ 0 := by rw [a2]; split <;> omega
  have h1 := sxLeX_ok hB hy hx hle
  dsimp only
  split
  · rename_i e
    have e := sxLe_ok h1 e hx (sxNR.c0 h1 100000)
    refine sxEqX_ok h1 hy ?_
    rw [a2, if_pos (by omega)]
    exact hx
  · split
    · rename_i e
      have e := sxLe_ok h1 e hy (sxNR.c0 h1 99999)
      refine sxEqX_ok h1 hy ?_
      have : tNv T 100000 P = tNv T 1000000 P := by
        rw [a2] at e ⊢
        split at e
        · rw [if_pos (by assumption)]
        · omega
      rw [this]
      exact hx
    · split
      · rename_i r hr
        have hr := sxRg_ok h1 hr hx
        split
        · rename_i e
          have e := iLe_ok e
          refine sxEqX_ok h1 hy ?_
          have : tNv T 100000 P = 100000 := by rw [a2]; split <;> omega
          rw [this]
          exact sxNR.c0 h1 _
        · rename_i e
          have e := iLe_no e
          exact sxLeX_ok h1 (sxNR.c0 h1 r.1) hy (by rw [a2]; split <;> omega)
      · exact h1
/-- the letters of a code, the last first -/
def tDec : Nat → Nat → List Nat
  | 0, _ => []
  | n + 1, c => match c with
    | 0 => []
    | c + 1 => (c + 1) % 27 :: tDec n ((c + 1) / 27)
def tVal : List Nat → Nat
  | [] => 0
  | d :: r => d + 27 * tVal r
def tOkD (l : List Nat) : Bool := l.all (fun d => Nat.blt 0 d && Nat.blt d 27)
theorem tCo_dec {p : Int} : ∀ {k : Nat} {l : List Nat}, (∀ i, i < k → tLt T (p + (i : Nat)) = true) → (∀ d ∈ l, 0 < d ∧ d < 27) → tCo T p k = tVal l → k = l.length ∧ ∀ (i d : Nat), l[i]? = some d → i < k ∧ tBy T (p + ((k - 1 - i : Nat) : Int)) = 96 + (d : Int)
  | 0, l, _, hl, h => by
    cases l with
    | nil => exact ⟨rfl, fun i d hd => by simp at hd⟩
    | cons d r =>
      have := (hl d List.mem_cons_self).1
      exfalso
      unfold tCo tVal at h
      omega
  | k + 1, l, hk, hl, h => by
    have hb := hk k (by omega)
    simp only [tLt, Bool.and_eq_true, decide_eq_true_eq] at hb
    unfold tCo at h
    have hnn : ∀ k, (∀ i, i < k → tLt T (p + (i : Nat)) = true) → 0 ≤ tCo T p k := by
      intro k
      induction k with
      | zero => intro _; unfold tCo; omega
      | succ k ih =>
        intro hk
        have h1 := ih (fun i hi => hk i (by omega))
        have h2 := hk k (by omega)
        simp only [tLt, Bool.and_eq_true, decide_eq_true_eq] at h2
        unfold tCo
        omega
    have h0 := hnn k (fun i hi => hk i (by omega))
    cases l with
    | nil =>
      exfalso
      unfold tVal at h
      omega
    | cons d r =>
      have hd := hl d List.mem_cons_self
      unfold tVal at h
      have e1 : tCo T p k = tVal r := by omega
      obtain ⟨a1, a2⟩ := tCo_dec (k := k) (l := r) (fun i hi => hk i (by omega)) (fun d hd => hl d (List.mem_cons_of_mem _ hd)) e1
      refine ⟨by simp [a1], fun i e he => ?_⟩
      cases i with
      | zero =>
        rw [List.getElem?_cons_zero] at he
        cases he
        refine ⟨by omega, ?_⟩
        rw [show k + 1 - 1 - 0 = k by omega]
        omega
      | succ i =>
        rw [List.getElem?_cons_succ] at he
        obtain ⟨b1, b2⟩ := a2 i e he
        refine ⟨by omega, ?_⟩
        rw [show k + 1 - 1 - (i + 1) = k - 1 - i by omega]
        exact b2
theorem tCw_dec {p : Int} {l : List Nat} (h0 : 0 ≤ p) (h1 : p ≤ 600) (hl : ∀ d ∈ l, 0 < d ∧ d < 27) (hc : 0 < tVal l ∧ tVal l < 387420488) (h : tCw T p = tVal l) : tWe T p = p + l.length ∧ ∀ (i d : Nat), l[i]? = some d → i < l.length ∧ tBy T (p + ((l.length - 1 - i : Nat) : Int)) = 96 + (d : Int) := by
  have e : tWe T p = tRun (tLt T) 601 p := tIn_eq h0 h1
  have hge := tRun_ge (f := tLt T) (n := 601) (p := p)
  have hall : ∀ i, i < (tWe T p - p).toNat → tLt T (p + (i : Nat)) = true := fun i hi => tRun_all (n := 601) (by rw [← e]; omega)
  have hco : tCo T p (tWe T p - p).toNat = tVal l := by
    unfold tCw at h
    split at h
    · omega
    · unfold tCl at h
      split at h
      · omega
      · split at h <;> omega
  obtain ⟨a1, a2⟩ := tCo_dec hall hl hco
  refine ⟨by omega, fun i d hd => ?_⟩
  obtain ⟨b1, b2⟩ := a2 i d hd
  rw [a1] at b1 b2
  exact ⟨b1, b2⟩
/-- the bytes of a word, the last first -/
def sxLet (p : sxN) : List Nat → Nat → sxB → sxB
  | [], _, B => B
  | d :: r, k, B => sxLet p r (k - 1) (sxPut B 41 (sxOf p (.ofNat (k - 1))) (0, 0) (0, .ofNat (96 + d)))
theorem sxLet_ok {p : sxN} {P : Int} (hp : sxNR σ p P) : ∀ {l : List Nat} {k : Nat} {B : sxB}, sxBR T σ B → (∀ (i d : Nat), l[i]? = some d → tBy T (P + ((k - 1 - i : Nat) : Int)) = 96 + (d : Int)) → sxBR T σ (sxLet p l k B)
  | [], _, _, hB, _ => hB
  | d :: r, k, B, hB, h => by
    unfold sxLet
    refine sxLet_ok hp (sxPut_ok hB (sxOf_ok hp _) (sxNR.c0 hB 0) ?_) (fun i e he => ?_)
    · have := h 0 d rfl
      rw [show k - 1 - 0 = k - 1 by omega] at this
      have e : sxSem T 41 (P + Int.ofNat (k - 1)) 0 = Int.ofNat (96 + d) := by
        show tBy T (P + Int.ofNat (k - 1)) = _
        simp only [Int.ofNat_eq_natCast]
        rw [this]
        omega
      rw [e]
      exact sxNR.c0 hB _
    · have := h (i + 1) e (by rw [List.getElem?_cons_succ]; exact he)
      rw [show k - 1 - (i + 1) = k - 1 - 1 - i by omega] at this
      exact this
/-- a word of which the code is known -/
def sxR5 (B : sxB) (p c : sxN) : sxB := match sxInP B p with
  | false => B
  | true => match sxNm B c with
    | (0, .ofNat (v + 1)) => (fun l => match tOkD l with
      | false => B
      | true => match Nat.beq (tVal l) (v + 1) with
        | false => B
        | true => match Nat.blt (v + 1) 387420488 with
          | false => B
          | true => sxLet p l l.length (sxPut B 43 p (0, 0) (sxOf p (.ofNat l.length)))) (tDec 6 (v + 1))
    | _ => B
theorem sxR5_ok {p c : sxN} {P : Int} (hB : sxBR T σ B) (hp : sxNR σ p P) (hc : sxNR σ c (tCw T P)) : sxBR T σ (sxR5 B p c) := by
  unfold sxR5
  split
  · exact hB
  rename_i hin
  obtain ⟨p0, p1⟩ := sxInP_ok hB hin hp
  split
  · rename_i v hv
    have hc := sxNm_ok hB hc
    rw [hv] at hc
    have hc := sxN0 hB hc
    dsimp only
    generalize tDec 6 (v + 1) = l
    split
    · exact hB
    rename_i h1
    split
    · exact hB
    rename_i h2
    have h2 := Nat.eq_of_beq_eq_true h2
    split
    · exact hB
    rename_i h3
    have h3 := bltOk h3
    have hl : ∀ d ∈ l, 0 < d ∧ d < 27 := fun d hd => by
      have := List.all_eq_true.mp h1 d hd
      rw [Bool.and_eq_true] at this
      exact ⟨bltOk this.1, bltOk this.2⟩
    obtain ⟨a1, a2⟩ := tCw_dec (T := T) p0 p1 hl (by omega) (by rw [hc, h2]; rfl)
    refine sxLet_ok hp (sxPut_ok hB hp (sxNR.c0 hB 0) ?_) (fun i d hd => (a2 i d hd).2)
    show sxNR σ _ (tWe T P)
    rw [a1]
    exact sxOf_ok hp _
  · exact hB
/-- unlike, but the same? -/
def sxR6 (B : sxB) (x y d : sxN) : sxB := match sxSame (sxNm B d) (0, 1) with
  | false => B
  | true => match sxEqv B x (sxNm B y) with
    | true => sxMkBad B
    | false => B
theorem sxR6_ok {d : sxN} (hB : sxBR T σ B) (hx : sxNR σ x X) (hy : sxNR σ y Y) (hd : sxNR σ d (sxSem T 21 X Y)) : sxBR T σ (sxR6 B x y d) := by
  unfold sxR6
  split
  · exact hB
  rename_i h1
  split
  · rename_i h2
    exfalso
    have h2 := sxEqv_ok hB h2 hx (sxNm_ok hB hy)
    have hd := sxNm_ok hB hd
    rw [sxSame_ok h1] at hd
    have hd := sxN0 hB hd
    simp only [sxSem] at hd
    rw [if_pos h2] at hd
    omega
  · exact hB
set_option maxRecDepth 100000 in
theorem and_byte (T : Nat) : (List.range 256).all (fun v => decide (sxSem T 2 ((v : Int) - 128) 255 = ((v : Int) - 128) % 256)) = true := by
  have h : (List.range 256).all (fun v => decide ((Int32.ofInt ((v : Int) - 128) &&& Int32.ofInt 255).toInt = ((v : Int) - 128) % 256)) = true := by decide +kernel
  exact h
theorem and_byte1 {V : Int} (h : -128 ≤ V ∧ V ≤ 127) : sxSem T 2 V 255 = V % 256 := by
  have h1 := of_decide_eq_true (List.all_eq_true.mp (and_byte T) (V + 128).toNat (List.mem_range.mpr (by omega)))
  rw [show (((V + 128).toNat : Nat) : Int) - 128 = V by omega] at h1
  exact h1
/-- a byte's eight bits -/
def sxR7 (B : sxB) (v c w : sxN) : sxB := match sxSame (sxNm B c) (0, 255) with
  | false => B
  | true => match sxBtw B v (-128) 127 with
    | false => B
    | true => match sxLe B w (0, 127) 0 with
      | true => sxEqX B v w
      | false => match sxLe B (0, 128) w 0 with
        | true => sxEqX B (sxOf v 256) w
        | false => B
theorem sxR7_ok {c w : sxN} {V C : Int} (hB : sxBR T σ B) (hv : sxNR σ x V) (hc : sxNR σ c C) (hw : sxNR σ w (sxSem T 2 V C)) : sxBR T σ (sxR7 B x c w) := by
  unfold sxR7
  split
  · exact hB
  rename_i h1
  have hc := sxNm_ok hB hc
  rw [sxSame_ok h1] at hc
  have hc := sxN0 hB hc
  split
  · exact hB
  rename_i h2
  have h2 := sxBtw_ok hB h2 hv
  rw [hc, and_byte1 h2] at hw
  split
  · rename_i h3
    have h3 := sxLe_ok hB h3 hw (sxNR.c0 hB 127)
    exact sxEqX_ok hB hv (by rw [show V = V % 256 by omega]; exact hw)
  · split
    · rename_i h4
      have h4 := sxLe_ok hB h4 (sxNR.c0 hB 128) hw
      exact sxEqX_ok hB (sxOf_ok hv 256) (by rw [show V + 256 = V % 256 by omega]; exact hw)
    · exact hB
/-- tables of atoms and worlds -/
def sxR8 (B : sxB) (o : Nat) (a c z : sxN) : sxB := nFc (sxNm B a) fun a1 => nFc (sxNm B c) fun c1 => match sxCst o a1 c1 with
  | some v => iFc v fun v => sxEqX B z (0, v)
  | none => match Nat.beq o 53 with
    | false => B
    | true => match sxFl B B.2.2.2.2 52 a1 (0, 0) with
      | none => B
      | some t => match sxFl B B.2.2.2.2 51 c1 (0, 0) with
        | none => B
        | some l => match sxFl B B.2.2.2.2 12 (sxNm B t) (sxNm B l) with
          | some v => sxEqX B z v
          | none => match sxFl B B.2.2.2.2 12 (sxNm B l) (sxNm B t) with
            | some v => sxEqX B z v
            | none => B
theorem sxR8_ok {o : Nat} {a c z : sxN} {A C : Int} (hB : sxBR T σ B) (ha : sxNR σ a A) (hc : sxNR σ c C) (hz : sxNR σ z (sxSem T o A C)) : sxBR T σ (sxR8 B o a c z) := by
  unfold sxR8
  rw [nFc_eq, nFc_eq]
  have ha1 := sxNm_ok hB ha
  have hc1 := sxNm_ok hB hc
  split
  · rename_i v hv
    rw [iFc_eq]
    rw [sxCst_ok hB hv ha1 hc1] at hz
    exact sxEqX_ok hB hz (sxNR.c0 hB v)
  split
  · exact hB
  rename_i e
  obtain rfl := Nat.eq_of_beq_eq_true e
  split
  · exact hB
  rename_i t ht
  have h1 : sxNR σ t (tAtm A) := sxFl_ok hB ht hB.2.2.2.2 ha1 (sxNR.c0 hB 0)
  split
  · exact hB
  rename_i l hl
  have h2 : sxNR σ l (tAll C) := sxFl_ok hB hl hB.2.2.2.2 hc1 (sxNR.c0 hB 0)
  split
  · rename_i v hv
    have h3 : sxNR σ v (sxSem T 12 (tAtm A) (tAll C)) := sxFl_ok hB hv hB.2.2.2.2 (sxNm_ok hB h1) (sxNm_ok hB h2)
    have h3 : sxNR σ v (sxSem T 53 A C) := h3
    exact sxEqX_ok hB hz h3
  split
  · rename_i v hv
    have h3 : sxNR σ v (sxSem T 12 (tAll C) (tAtm A)) := sxFl_ok hB hv hB.2.2.2.2 (sxNm_ok hB h2) (sxNm_ok hB h1)
    rw [sem_cm (by decide)] at h3
    have h3 : sxNR σ v (sxSem T 53 A C) := h3
    exact sxEqX_ok hB hz h3
  · exact hB
/-- a look-up among what was looked up -/
def sxF2 (B : sxB) (o : Nat) (x y : Option sxN) : Option sxN := match x with
  | none => none
  | some x => match y with
    | none => none
    | some y => sxFl B B.2.2.2.2 o (sxNm B x) (sxNm B y)
def sxOR1 (σ : List Int) (x : Option sxN) (X : Int) : Prop := ∀ t, x = some t → sxNR σ t X
theorem sxF2_ok {o : Nat} {x y : Option sxN} (hB : sxBR T σ B) (hx : sxOR1 σ x X) (hy : sxOR1 σ y Y) : sxOR1 σ (sxF2 B o x y) (sxSem T o X Y) := by
  intro t h
  unfold sxF2 at h
  split at h
  · cases h
  · rename_i a
    split at h
    · cases h
    · rename_i b
      exact sxFl_ok hB h hB.2.2.2.2 (sxNm_ok hB (hx a rfl)) (sxNm_ok hB (hy b rfl))
theorem sxO1c (hB : sxBR T σ B) (c : Int) : sxOR1 σ (some (0, c)) c := fun t h => by cases h; exact sxNR.c0 hB c
/-- the bits as the JDK counts them -/
def sxS64 (B : sxB) (x : Option sxN) : Option sxN := (fun a1 => (fun a2 => (fun a3 => (fun a4 => (fun a5 => (fun a6 => sxF2 B 2 (sxF2 B 20 a6 (some (0, 0))) (some (0, 127))) (sxF2 B 9 a5 (sxF2 B 18 a5 (some (0, 32))))) (sxF2 B 9 a4 (sxF2 B 18 a4 (some (0, 16))))) (sxF2 B 9 a3 (sxF2 B 18 a3 (some (0, 8))))) (sxF2 B 12 (sxF2 B 9 a2 (sxF2 B 18 a2 (some (0, 4)))) (some (0, 1085102592571150095)))) (sxF2 B 9 (sxF2 B 12 a1 (some (0, 3689348814741910323))) (sxF2 B 12 (sxF2 B 18 a1 (some (0, 2))) (some (0, 3689348814741910323))))) (sxF2 B 10 x (sxF2 B 12 (sxF2 B 18 x (some (0, 1))) (some (0, 6148914691236517205))))
def sxS32 (B : sxB) (x : Option sxN) : Option sxN := (fun a1 => (fun a2 => (fun a3 => (fun a4 => (fun a5 => sxF2 B 2 a5 (some (0, 63))) (sxF2 B 5 a4 (sxF2 B 8 a4 (some (0, 16))))) (sxF2 B 5 a3 (sxF2 B 8 a3 (some (0, 8))))) (sxF2 B 2 (sxF2 B 5 a2 (sxF2 B 8 a2 (some (0, 4)))) (some (0, 252645135)))) (sxF2 B 5 (sxF2 B 2 a1 (some (0, 858993459))) (sxF2 B 2 (sxF2 B 8 a1 (some (0, 2))) (some (0, 858993459))))) (sxF2 B 15 x (sxF2 B 2 (sxF2 B 8 x (some (0, 1))) (some (0, 1431655765))))
theorem sxS64_ok {x : Option sxN} (hB : sxBR T σ B) (hx : sxOR1 σ x X) : sxOR1 σ (sxS64 B x) (pN 64 (uL X) : Nat) := by
  rw [← sw64 (T := T) X 1 2 4 8 16 32 _ _ _ rfl rfl rfl rfl rfl rfl rfl rfl rfl]
  unfold sxS64
  dsimp only
  have c := sxO1c hB
  have h1 := sxF2_ok (o := 10) hB hx (sxF2_ok (o := 12) hB (sxF2_ok (o := 18) hB hx (c 1)) (c 6148914691236517205))
  have h2 := sxF2_ok (o := 9) hB (sxF2_ok (o := 12) hB h1 (c 3689348814741910323)) (sxF2_ok (o := 12) hB (sxF2_ok (o := 18) hB h1 (c 2)) (c 3689348814741910323))
  have h3 := sxF2_ok (o := 12) hB (sxF2_ok (o := 9) hB h2 (sxF2_ok (o := 18) hB h2 (c 4))) (c 1085102592571150095)
  have h4 := sxF2_ok (o := 9) hB h3 (sxF2_ok (o := 18) hB h3 (c 8))
  have h5 := sxF2_ok (o := 9) hB h4 (sxF2_ok (o := 18) hB h4 (c 16))
  have h6 := sxF2_ok (o := 9) hB h5 (sxF2_ok (o := 18) hB h5 (c 32))
  exact sxF2_ok (o := 2) hB (sxF2_ok (o := 20) hB h6 (c 0)) (c 127)
theorem sxS32_ok {x : Option sxN} (hB : sxBR T σ B) (hx : sxOR1 σ x X) : sxOR1 σ (sxS32 B x) (pN 32 (uI X) : Nat) := by
  rw [← sw32 (T := T) X 1 2 4 8 16 _ _ _ rfl rfl rfl rfl rfl rfl rfl rfl]
  unfold sxS32
  dsimp only
  have c := sxO1c hB
  have h1 := sxF2_ok (o := 15) hB hx (sxF2_ok (o := 2) hB (sxF2_ok (o := 8) hB hx (c 1)) (c 1431655765))
  have h2 := sxF2_ok (o := 5) hB (sxF2_ok (o := 2) hB h1 (c 858993459)) (sxF2_ok (o := 2) hB (sxF2_ok (o := 8) hB h1 (c 2)) (c 858993459))
  have h3 := sxF2_ok (o := 2) hB (sxF2_ok (o := 5) hB h2 (sxF2_ok (o := 8) hB h2 (c 4))) (c 252645135)
  have h4 := sxF2_ok (o := 5) hB h3 (sxF2_ok (o := 8) hB h3 (c 8))
  have h5 := sxF2_ok (o := 5) hB h4 (sxF2_ok (o := 8) hB h4 (c 16))
  exact sxF2_ok (o := 2) hB h5 (c 63)
/-- counts of bits -/
def sxR9 (B : sxB) (o : Nat) (a c z : sxN) : sxB := nFc (sxNm B a) fun a1 => nFc (sxNm B c) fun c1 => match sxCst o a1 c1 with
  | some v => iFc v fun v => sxEqX B z (0, v)
  | none => match Nat.beq o 54 with
    | false => (match sxS32 B (some a1) with | some t => sxEqX B z t | none => B)
    | true => sxBk (sxPut B 60 a (0, 0) (0, 0)) fun B => match sxFl B B.2.2.2.2 60 (sxNm B a) (0, 64) with
      | some t => sxEqX B z t
      | none => match sxS64 B (some a1) with
        | some t => sxEqX B z t
        | none => B
theorem sxR9_ok {o : Nat} {a c z : sxN} {A C : Int} (ho : o = 54 ∨ o = 55) (hB : sxBR T σ B) (ha : sxNR σ a A) (hc : sxNR σ c C) (hz : sxNR σ z (sxSem T o A C)) : sxBR T σ (sxR9 B o a c z) := by
  unfold sxR9
  rw [nFc_eq, nFc_eq]
  have ha1 := sxNm_ok hB ha
  have hc1 := sxNm_ok hB hc
  have ho1 : sxOR1 σ (some (sxNm B a)) A := fun t h => by cases h; exact ha1
  split
  · rename_i v hv
    rw [iFc_eq]
    rw [sxCst_ok hB hv ha1 hc1] at hz
    exact sxEqX_ok hB hz (sxNR.c0 hB v)
  split
  · rename_i e
    have e := Nat.ne_of_beq_eq_false e
    obtain rfl : o = 55 := by omega
    split
    · rename_i t ht
      exact sxEqX_ok hB hz (sxS32_ok hB ho1 t ht)
    · exact hB
  · rename_i e
    obtain rfl := Nat.eq_of_beq_eq_true e
    rw [sxBk_eq]
    have hB2 : sxBR T σ (sxPut B 60 a (0, 0) (0, 0)) := sxPut_ok hB ha (sxNR.c0 hB 0) (sxNR.c0 hB 0)
    generalize hb : sxPut B 60 a (0, 0) (0, 0) = B2 at hB2 ⊢
    split
    · rename_i t ht
      have h3 : sxNR σ t (sxSem T 60 A 64) := sxFl_ok hB2 ht hB2.2.2.2.2 (sxNm_ok hB2 ha) (sxNR.c0 hB2 64)
      exact sxEqX_ok hB2 hz h3
    · split
      · rename_i t ht
        exact sxEqX_ok hB2 hz (sxS64_ok hB2 ho1 t ht)
      · exact hB2
/-- a bit more is counted -/
def sxR10 (B : sxB) (a c z : sxN) : sxB := sxBk (sxLeX (sxLeX B (0, 0) z 0) z (0, 64) 0) fun B => match sxFl B B.2.2.2.2 17 (sxNm B a) (sxNm B c) with
  | none => B
  | some h => match sxFl B B.2.2.2.2 12 (sxNm B h) (0, 1) with
    | none => B
    | some h => match sxBtw B c 0 63 with
      | false => B
      | true => match sxAd0 B (sxNm B z) (sxNm B h) with
        | some u => sxPut B 60 a (sxOf c 1) u
        | none => match sxAd0 B z h with
          | some u => sxPut B 60 a (sxOf c 1) u
          | none => B
theorem sh_nat (v : BitVec 64) (n : Nat) (hn : n < 64) : (v.sshiftRight n).toNat % 2 = v.toNat / 2 ^ n % 2 := by
  have h := BitVec.getLsbD_sshiftRight v (s := n) (i := 0)
  rw [Nat.add_zero, if_pos hn] at h
  have h : (v.sshiftRight n).toNat.testBit 0 = v.toNat.testBit n := by simpa [BitVec.getLsbD] using h
  rw [Nat.testBit_zero, Nat.testBit_eq_decide_div_mod_eq, decide_eq_decide] at h
  omega
theorem sh_bit (x : Int) (c : Int) (h0 : 0 ≤ c) (h1 : c ≤ 63) : sxSem T 12 (sxSem T 17 x c) 1 = ((uL x / 2 ^ c.toNat % 2 : Nat) : Int) := by
  show (Int64.ofInt (Int64.ofInt x >>> ((Int32.ofInt c).toInt64 &&& 63)).toInt &&& Int64.ofInt 1).toInt = _
  rw [Int64.ofInt_toInt]
  have e : (Int64.ofInt x >>> ((Int32.ofInt c).toInt64 &&& 63)).toBitVec = (Int64.ofInt x).toBitVec.sshiftRight (BitVec.smod ((Int32.ofInt c).toBitVec.signExtend 64 &&& 63#64) 64#64).toNat := rfl
  have e2 : (Int32.ofInt c).toInt = c := Int32.toInt_ofInt_of_le (by omega) (by omega)
  rw [bv32 (b := Int32.ofInt c) (by omega), e2, sm64 _ (by omega), BitVec.toNat_ofNat, Nat.mod_eq_of_lt (by omega)] at e
  have key : ((Int64.ofInt x >>> ((Int32.ofInt c).toInt64 &&& 63)) &&& Int64.ofInt 1).toBitVec.toNat = uL x / 2 ^ c.toNat % 2 := by
    show ((Int64.ofInt x >>> ((Int32.ofInt c).toInt64 &&& 63)).toBitVec &&& 1#64).toNat = _
    rw [e, BitVec.toNat_and, show (1#64).toNat = 2 ^ 1 - 1 from rfl, Nat.and_two_pow_sub_one_eq_mod, ← uL_b x]
    exact sh_nat _ _ (by omega)
  have k2 : uL x / 2 ^ c.toNat % 2 < 2 := Nat.mod_lt _ (by decide)
  show ((Int64.ofInt x >>> ((Int32.ofInt c).toInt64 &&& 63)) &&& Int64.ofInt 1).toBitVec.toInt = _
  rw [of64 (by omega), key]
theorem sxR10_ok {a c z : sxN} {A C : Int} (hB : sxBR T σ B) (ha : sxNR σ a A) (hc : sxNR σ c C) (hz : sxNR σ z (sxSem T 60 A C)) : sxBR T σ (sxR10 B a c z) := by
  unfold sxR10
  rw [sxBk_eq]
  have h60 : ∀ D : Int, sxSem T 60 A D = ((pN (Nat.min D.toNat 64) (uL A) : Nat) : Int) := fun D => rfl
  have hr := pN_le (Nat.min C.toNat 64) (uL A)
  have hm : Nat.min C.toNat 64 ≤ 64 := Nat.min_le_right _ _
  have hB1 : sxBR T σ (sxLeX (sxLeX B (0, 0) z 0) z (0, 64) 0) := by
    have g := sxLeX_ok (c := 0) hB (sxNR.c0 hB 0) hz (by rw [h60]; omega)
    exact sxLeX_ok (c := 0) g hz (sxNR.c0 g 64) (by rw [h60]; omega)
  generalize sxLeX (sxLeX B (0, 0) z 0) z (0, 64) 0 = B2 at hB1 ⊢
  split
  · exact hB1
  rename_i h hh
  have g1 : sxNR σ h (sxSem T 17 A C) := sxFl_ok hB1 hh hB1.2.2.2.2 (sxNm_ok hB1 ha) (sxNm_ok hB1 hc)
  split
  · exact hB1
  rename_i h2 hh2
  have g2 : sxNR σ h2 (sxSem T 12 (sxSem T 17 A C) 1) := sxFl_ok hB1 hh2 hB1.2.2.2.2 (sxNm_ok hB1 g1) (sxNR.c0 hB1 1)
  split
  · exact hB1
  rename_i hb
  obtain ⟨c0, c1⟩ := sxBtw_ok hB1 hb hc
  rw [sh_bit _ _ c0 c1] at g2
  have e : sxSem T 60 A (C + 1) = sxSem T 60 A C + ((uL A / 2 ^ C.toNat % 2 : Nat) : Int) := by
    rw [h60, h60, show Nat.min (C + 1).toNat 64 = C.toNat + 1 from (Nat.min_eq_left (show (C + 1).toNat ≤ 64 by omega)).trans (by omega), show Nat.min C.toNat 64 = C.toNat from Nat.min_eq_left (show C.toNat ≤ 64 by omega), pN_suc]
    omega
  split
  · rename_i u hu
    exact sxPut_ok hB1 ha (sxOf_ok hc 1) (by rw [e]; exact sxAd0_ok hB1 hu (sxNm_ok hB1 hz) (sxNm_ok hB1 g2))
  · split
    · rename_i u hu
      exact sxPut_ok hB1 ha (sxOf_ok hc 1) (by rw [e]; exact sxAd0_ok hB1 hu hz g2)
    · exact hB1
/-- one fact's rule -/
def sxRl0 (B : sxB) (q : Nat × sxN × sxN × sxN) : sxB := match Nat.beq q.1 41 with
  | true => B
  | false => match Nat.beq q.1 42 with
  | true => (sxR1 B 42 q.2.1 q.2.2.2)
  | false => match Nat.beq q.1 43 with
  | true => ((match sxSame q.2.2.1 (0, 0) with | true => (fun B1 => match sxG1 B1 50 q.2.1 with | some _ => sxR3w B1 q.2.1 q.2.2.2 | none => B1) (sxR1 B 43 q.2.1 q.2.2.2) | false => B))
  | false => match Nat.beq q.1 44 with
  | true => ((match sxSame q.2.2.1 (0, 0) with | true => (fun B1 => match sxIsB B1 q.2.1 48 57 with | true => (match sxG1 B1 46 q.2.1 with | some _ => sxR3n B1 q.2.1 q.2.2.2 | none => match sxG1 B1 48 q.2.1 with | some _ => sxR3n B1 q.2.1 q.2.2.2 | none => B1) | false => B1) (sxR1 B 44 q.2.1 q.2.2.2) | false => B))
  | false => match Nat.beq q.1 46 with
  | true => (sxR4 B q.2.1 q.2.2.2)
  | false => match Nat.beq q.1 50 with
  | true => (sxR5 B q.2.1 q.2.2.2)
  | false => match Nat.beq q.1 49 with
  | true => (sxR2c B q.2.1 q.2.2.1 q.2.2.2)
  | false => match Nat.beq q.1 45 with
  | true => (sxR2v B 45 q.2.1 q.2.2.1 q.2.2.2)
  | false => match Nat.beq q.1 47 with
  | true => (sxR2v B 47 q.2.1 q.2.2.1 q.2.2.2)
  | false => match Nat.beq q.1 21 with
  | true => (sxR6 B q.2.1 q.2.2.1 q.2.2.2)
  | false => match Nat.beq q.1 2 with
  | true => (sxR7 B q.2.1 q.2.2.1 q.2.2.2)
  | false => match Nat.blt 50 q.1 with
  | true => (match Nat.beq q.1 60 with | true => sxR10 B q.2.1 q.2.2.1 q.2.2.2 | false => match Nat.beq q.1 54 with | true => sxR9 B 54 q.2.1 q.2.2.1 q.2.2.2 | false => match Nat.beq q.1 55 with | true => sxR9 B 55 q.2.1 q.2.2.1 q.2.2.2 | false => sxR8 B q.1 q.2.1 q.2.2.1 q.2.2.2)
  | false => B
theorem sem42 {a b : Int} : sxSem T 42 a b = sxSem T 42 a 0 := by simp only [sxSem]
theorem sem43 {a b : Int} : sxSem T 43 a b = sxSem T 43 a 0 := by simp only [sxSem]
theorem sem44 {a b : Int} : sxSem T 44 a b = sxSem T 44 a 0 := by simp only [sxSem]
theorem sem43' {a b : Int} : sxSem T 43 a b = tWe T a := by simp only [sxSem]
theorem sem44' {a b : Int} : sxSem T 44 a b = tNe T a := by simp only [sxSem]
theorem sem46 {a b : Int} : sxSem T 46 a b = tNv T 1000000 a := by simp only [sxSem]
theorem sem49 {a b : Int} : sxSem T 49 a b = tCo T a b.toNat := by simp only [sxSem]
theorem sem50 {a b : Int} : sxSem T 50 a b = tCw T a := by simp only [sxSem]
theorem sxRl0_ok {q : Nat × sxN × sxN × sxN} (hB : sxBR T σ B) (hq : sxFt T σ q) : sxBR T σ (sxRl0 B q) := by
  obtain ⟨o, a, b, z⟩ := q
  obtain ⟨A, C, Z, h1, h2, h3, h4⟩ := hq
  dsimp only at h1 h2 h3 h4
  subst h4
  unfold sxRl0
  dsimp only
  split
  · exact hB
  split
  · rename_i e
    obtain rfl := Nat.eq_of_beq_eq_true e
    rw [sem42] at h3
    exact sxR1_ok (o := 42) rfl hB h1 h3
  split
  · rename_i e
    obtain rfl := Nat.eq_of_beq_eq_true e
    split
    · have hz := h3
      rw [sem43'] at hz
      rw [sem43] at h3
      have h5 := sxR1_ok (o := 43) (a := a) (s := z) rfl hB h1 h3
      split
      · exact sxR3w_ok h5 h1 hz
      · exact h5
    · exact hB
  split
  · rename_i e
    obtain rfl := Nat.eq_of_beq_eq_true e
    split
    · have hz := h3
      rw [sem44'] at hz
      rw [sem44] at h3
      have h5 := sxR1_ok (o := 44) (a := a) (s := z) rfl hB h1 h3
      split
      · split
        · exact sxR3n_ok h5 h1 hz
        · split
          · exact sxR3n_ok h5 h1 hz
          · exact h5
      · exact h5
    · exact hB
  split
  · rename_i e
    obtain rfl := Nat.eq_of_beq_eq_true e
    rw [sem46] at h3
    exact sxR4_ok hB h1 h3
  split
  · rename_i e
    obtain rfl := Nat.eq_of_beq_eq_true e
    rw [sem50] at h3
    exact sxR5_ok hB h1 h3
  split
  · rename_i e
    obtain rfl := Nat.eq_of_beq_eq_true e
    rw [sem49] at h3
    exact sxR2c_ok hB h1 h2 h3
  split
  · rename_i e
    obtain rfl := Nat.eq_of_beq_eq_true e
    exact sxR2v_ok (Or.inl rfl) hB h1 h2 h3
  split
  · rename_i e
    obtain rfl := Nat.eq_of_beq_eq_true e
    exact sxR2v_ok (Or.inr rfl) hB h1 h2 h3
  split
  · rename_i e
    obtain rfl := Nat.eq_of_beq_eq_true e
    exact sxR6_ok hB h1 h2 h3
  split
  · rename_i e
    obtain rfl := Nat.eq_of_beq_eq_true e
    exact sxR7_ok hB h1 h2 h3
  split
  · split
    · rename_i e
      obtain rfl := Nat.eq_of_beq_eq_true e
      exact sxR10_ok hB h1 h2 h3
    split
    · rename_i e
      obtain rfl := Nat.eq_of_beq_eq_true e
      exact sxR9_ok (Or.inl rfl) hB h1 h2 h3
    split
    · rename_i e
      obtain rfl := Nat.eq_of_beq_eq_true e
      exact sxR9_ok (Or.inr rfl) hB h1 h2 h3
    exact sxR8_ok hB h1 h2 h3
  exact hB
/-- .. and what was known of it already -/
def sxRl (B : sxB) (q : Nat × sxN × sxN × sxN) : sxB := sxBn (sxRl0 B q) fun B1 => match Nat.blt 40 q.1 with
  | false => B1
  | true => match sxFl B1 B1.2.2.2.2 q.1 (sxNm B1 q.2.1) (sxNm B1 q.2.2.1) with
    | some z => (match sxSame z q.2.2.2 with | true => B1 | false => sxEqX B1 z q.2.2.2)
    | none => B1
theorem sxRl_ok {q : Nat × sxN × sxN × sxN} (hB : sxBR T σ B) (hq : sxFt T σ q) : sxBR T σ (sxRl B q) := by
  unfold sxRl
  have h1 := sxRl0_ok hB hq
  obtain ⟨A, C, Z, g1, g2, g3, g4⟩ := hq
  rw [sxBn_eq]
  split
  · exact h1
  split
  · rename_i z hz
    split
    · exact h1
    · have := sxFl_ok h1 hz h1.2.2.2.2 (sxNm_ok h1 g1) (sxNm_ok h1 g2)
      rw [g4] at this
      exact sxEqX_ok h1 this g3
  · exact h1
def sxPs (l_ : sxF) : sxB → sxB := @List.rec _ (fun _ => sxB → sxB) (fun B => B) (fun q _ ih B => sxBn (sxRl B q) fun B1 => ih B1) l_
theorem sxPs_c {q : Nat × sxN × sxN × sxN} {r : sxF} {B : sxB} : sxPs (q :: r) B = (sxBn (sxRl B q) fun B1 => sxPs r B1) := rfl
theorem sxPs_ok : ∀ {F : sxF} {B : sxB}, (∀ q ∈ F, sxFt T σ q) → sxBR T σ B → sxBR T σ (sxPs F B)
  | [], _, _, hB => hB
  | q :: r, B, hF, hB => by
    have hr : ∀ q ∈ r, sxFt T σ q := fun q hq => hF q (List.mem_cons_of_mem _ hq)
    show sxBR T σ (sxBn (sxRl B q) fun B1 => sxPs r B1)
    rw [sxBn_eq]
    exact sxPs_ok (B := sxRl B q) hr (sxRl_ok hB (hF q List.mem_cons_self))
/-- a sum of which one part is known -/
def sxPa (l_ : sxA) : sxB → sxB := @List.rec _ (fun _ => sxB → sxB) (fun B => B) (fun q _ ih B => match sxNm B (q.2.1, 0) with
    | (0, v) => (match sxNm B (q.2.2, 0) with
      | (0, _) => ih B
      | (_ + 1, _) => ih (sxEqX B (q.1, 0) (q.2.2, v)))
    | (_ + 1, _) => match sxNm B (q.2.2, 0) with
      | (0, w) => ih (sxEqX B (q.1, 0) (q.2.1, w))
      | (_ + 1, _) => match sxRgS B q.2.1 with
        | some p => (match iLe (-600) p.1 with
          | true => (match iLe p.2 600 with
            | true => ih (sxLeX (sxLeX B (q.1, 0) (q.2.2, 0) p.2) (q.2.2, 0) (q.1, 0) (-p.1))
            | false => ih B)
          | false => ih B)
        | none => ih B) l_
theorem sxPa_c {q : Nat × Nat × Nat} {r : sxA} {B : sxB} : sxPa (q :: r) B = (match sxNm B (q.2.1, 0) with
    | (0, v) => (match sxNm B (q.2.2, 0) with
      | (0, _) => sxPa r B
      | (_ + 1, _) => sxPa r (sxEqX B (q.1, 0) (q.2.2, v)))
    | (_ + 1, _) => match sxNm B (q.2.2, 0) with
      | (0, w) => sxPa r (sxEqX B (q.1, 0) (q.2.1, w))
      | (_ + 1, _) => match sxRgS B q.2.1 with
        | some p => (match iLe (-600) p.1 with
          | true => (match iLe p.2 600 with
            | true => sxPa r (sxLeX (sxLeX B (q.1, 0) (q.2.2, 0) p.2) (q.2.2, 0) (q.1, 0) (-p.1))
            | false => sxPa r B)
          | false => sxPa r B)
        | none => sxPa r B) := rfl
theorem sxPa_ok : ∀ {A : sxA} {B : sxB}, (∀ q ∈ A, sxSm σ q) → sxBR T σ B → sxBR T σ (sxPa A B)
  | [], _, _, hB => hB
  | q :: r, B, hA, hB => by
    have hr : ∀ q ∈ r, sxSm σ q := fun q hq => hA q (List.mem_cons_of_mem _ hq)
    obtain ⟨t, a, b, h1, h2, h3, h4⟩ := hA q List.mem_cons_self
    have ha : sxNR σ (q.2.1, 0) a := ⟨a, h2, by simp⟩
    have hb : sxNR σ (q.2.2, 0) b := ⟨b, h3, by simp⟩
    have ht : sxNR σ (q.1, 0) t := ⟨t, h1, by simp⟩
    rw [sxPa_c]
    split
    · rename_i v hv
      split
      · exact sxPa_ok hr hB
      · have h5 := sxNm_ok hB ha
        rw [hv] at h5
        have h5 := sxN0 hB h5
        exact sxPa_ok hr (sxEqX_ok hB ht ⟨b, h3, by dsimp only; omega⟩)
    · split
      · rename_i w hw
        have h5 := sxNm_ok hB hb
        rw [hw] at h5
        have h5 := sxN0 hB h5
        exact sxPa_ok hr (sxEqX_ok hB ht ⟨a, h2, by dsimp only; omega⟩)
      · split
        · rename_i p hp
          obtain ⟨y, r1, r2, r3⟩ := sxRgS_ok hB hp
          cases Option.some.inj (h2.symm.trans r1)
          split
          · split
            · exact sxPa_ok hr (sxLeX_ok (sxLeX_ok hB ht hb (by omega)) hb ht (by omega))
            · exact sxPa_ok hr hB
          · exact sxPa_ok hr hB
        · exact sxPa_ok hr hB
def sxPss : Nat → sxB → sxB
  | 0, B => B
  | n + 1, B => sxBk (sxPs B.2.2.2.2 B) fun B1 => sxPss n B1
theorem sxPss_ok : ∀ {n : Nat} {B : sxB}, sxBR T σ B → sxBR T σ (sxPss n B)
  | 0, _, hB => hB
  | n + 1, B, hB => by
    have h := sxPs_ok (B := B) hB.2.2.2.2 hB
    exact sxPss_ok (n := n) (B := sxPs B.2.2.2.2 B) h
/-- a byte of which only this is known: that no run goes on there -/
def sxRdS (B : sxB) (o : Nat) (x v : sxN) : sxB := match sxG1 B o x with
  | none => B
  | some z => match sxNot B v (tLo o).1 (tLo o).2 with
    | true => sxEqX B z x
    | false => B
theorem sxRdS_ok {o : Nat} {v : sxN} {V : Int} (ho : isRn o = true) (hB : sxBR T σ B) (hx : sxNR σ x X) (hv : sxNR σ v V) (h0 : 0 ≤ X) (h1 : X ≤ 600) (h2 : -128 ≤ V) (h : tBy T X = if V < 0 then V + 256 else V) : sxBR T σ (sxRdS B o x v) := by
  unfold sxRdS
  split
  · exact hB
  rename_i z hz
  have hz := sxG1_ok hB hz hx
  split
  · rename_i e
    have e := sxNot_ok hB e hv
    refine sxEqX_ok hB hz ?_
    have hl : (tLo o).2 ≤ 122 ∧ 0 ≤ (tLo o).1 := by
      unfold tLo
      split <;> decide
    have hf : tFn T o X = false := by
      cases hf : tFn T o X with
      | false => rfl
      | true =>
        have h5 := tFn_iff.mp hf
        rw [h] at h5
        split at h5 <;> omega
    rw [rn_stop ho h0 h1 hf]
    exact hx
  · exact hB
/-- what is read of the text: by the class's row, by the reference's -/
def sxRdT (B : sxB) (x v : sxN) : sxB := match sxG1 B 40 (0, 0) with
  | none => B
  | some n => match sxLe B (0, 0) x 0 with
    | false => B
    | true => match sxLe B x n (-1) with
      | false => B
      | true => match sxLe B (0, 0) v 0 with
        | true => sxPut B 41 x (0, 0) v
        | false => match sxLe B v (0, -1) 0 with
          | true => sxPut B 41 x (0, 0) (sxOf v 256)
          | false => match sxBtw B v (-128) 127 with
            | false => B
            | true => match sxFl B B.2.2.2.2 2 (sxNm B v) (0, 255) with
              | some w => sxPut B 41 x (0, 0) w
              | none => sxRdS (sxRdS (sxRdS B 42 x v) 43 x v) 44 x v
theorem sxRdT_ok {v : sxN} {V : Int} (hB : sxBR T σ B) (hx : sxNR σ x X) (hv : sxNR σ v V) (h : 0 ≤ X → X < tLn T → -128 ≤ V ∧ V ≤ 255 ∧ tBy T X = if V < 0 then V + 256 else V) : sxBR T σ (sxRdT B x v) := by
  unfold sxRdT
  split
  · exact hB
  rename_i n hn
  have hn : sxNR σ n (tLn T) := sxG1_ok hB hn (sxNR.c0 hB 0)
  split
  · exact hB
  rename_i e1
  have e1 := sxLe_ok hB e1 (sxNR.c0 hB 0) hx
  split
  · exact hB
  rename_i e2
  have e2 := sxLe_ok hB e2 hx hn
  obtain ⟨g1, g2, g3⟩ := h (by omega) (by omega)
  split
  · rename_i e3
    have e3 := sxLe_ok hB e3 (sxNR.c0 hB 0) hv
    refine sxPut_ok hB hx (sxNR.c0 hB 0) ?_
    have : sxSem T 41 X 0 = V := by show tBy T X = V; rw [g3, if_neg (by omega)]
    rw [this]
    exact hv
  split
  · rename_i e3
    have e3 := sxLe_ok hB e3 hv (sxNR.c0 hB (-1))
    refine sxPut_ok hB hx (sxNR.c0 hB 0) ?_
    have : sxSem T 41 X 0 = V + 256 := by show tBy T X = V + 256; rw [g3, if_pos (by omega)]
    rw [this]
    exact sxOf_ok hv 256
  split
  · exact hB
  rename_i e4
  have e4 := sxBtw_ok hB e4 hv
  split
  · rename_i w hw
    have hw := sxFl_ok hB hw hB.2.2.2.2 (sxNm_ok hB hv) (sxNR.c0 hB 255)
    refine sxPut_ok hB hx (sxNR.c0 hB 0) ?_
    have h1 := of_decide_eq_true (List.all_eq_true.mp (and_byte T) (V + 128).toNat (List.mem_range.mpr (by omega)))
    rw [show (((V + 128).toNat : Nat) : Int) - 128 = V by omega] at h1
    have : sxSem T 41 X 0 = sxSem T 2 V 255 := by
      rw [h1]
      show tBy T X = _
      rw [g3]
      split <;> omega
    rw [this]
    exact hw
  · have h6 := tLn_le T
    exact sxRdS_ok rfl (sxRdS_ok rfl (sxRdS_ok rfl hB hx hv (by omega) (by omega) g1 g3) hx hv (by omega) (by omega) g1 g3) hx hv (by omega) (by omega) g1 g3
end SXRUM

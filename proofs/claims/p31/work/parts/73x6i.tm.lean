/-! PC: what a TONGUE says: both sides alike -/
section PCTM
variable {m : Nat} {L : mjL} {H H' H0 H1 : mjH} {r : Option Value ⊕ Nat}
/-- what a sign reckons, as the reference has it -/
def tmR (s : Int) (x y : Int32) : Int32 := if s = 2 then x + y else if s = 3 then x - y else if s = 4 then x * y else if s = 5 then (if x < y then Int32.ofInt 1 else Int32.ofInt 0) else if s = 6 then (if y < x then Int32.ofInt 1 else Int32.ofInt 0) else if s = 7 then (if x = y then Int32.ofInt 1 else Int32.ofInt 0) else if s = 9 then x * y else (if x + y ≤ Int32.ofInt 0 then Int32.ofInt 0 else Int32.ofInt 1)
def tmS (vals : Nat → Int32) : List (Int × Int) → List Int32 → List Int32
  | [], st => st
  | q :: l, st => if q.1 = 0 then tmS vals l (Int32.ofInt q.2 :: st) else if q.1 = 1 then tmS vals l (vals q.2.toNat :: st) else if q.1 = 8 then tmS vals l ((Int32.ofInt 1 - st.headD 0) :: st.tail) else tmS vals l (tmR q.1 (st.tail.headD 0) (st.headD 0) :: st.tail.tail)
/-- the class's code for the reference's -/
def tgE (q : Int × Int) : Int := if q.1 = 0 then q.2 else if q.1 = 1 then 1000 + q.2 else if q.1 = 8 then 2008 else if q.1 = 9 then 2006 else if q.1 = 10 then 2007 else 1998 + q.1
/-- a piece of codes that comes to one number more -/
def tgX (D : Nat) (seg : List (Int × Int)) (d : (Nat → Int32) → Int32) : Prop := ∀ vals, (∀ (l : List Int) (st : List Int32), st.length + D ≤ 64 → tgC vals (seg.map tgE ++ l) st = tgC vals l (d vals :: st) ∧ (tgG vals l (d vals :: st) → tgG vals (seg.map tgE ++ l) st)) ∧ ∀ (l : List (Int × Int)) (st : List Int32), tmS vals (seg ++ l) st = tmS vals l (d vals :: st)
def tgY (D : Nat) (seg : List (Int × Int)) (d : (Nat → Int32) → Int32) : Prop := tgX D seg d ∧ ∀ vals, d vals = Int32.ofInt 0 ∨ d vals = Int32.ofInt 1
theorem tgX.le {D D' : Nat} {seg : List (Int × Int)} {d : (Nat → Int32) → Int32} (h : tgX D seg d) (hD : D ≤ D') : tgX D' seg d := fun vals => ⟨fun l st hl => (h vals).1 l st (by omega), (h vals).2⟩
theorem tgX_num {v : Int} (h : 0 ≤ v ∧ v < 1000) : tgX 1 [(0, v)] (fun _ => Int32.ofInt v) := by
  intro vals
  have e : tgV vals v = Int32.ofInt v := by
    unfold tgV
    rw [if_neg (by omega)]
  refine ⟨fun l st hl => ⟨?_, fun hg => ?_⟩, fun l st => ?_⟩
  · show tgC vals (v :: l) st = _
    rw [tgC, if_pos (by omega), e]
  · show tgG vals (v :: l) st
    unfold tgG
    refine ⟨fun _ => ⟨by omega, by rw [e]; exact hg⟩, fun c => by omega, fun c => by omega, fun c => by omega⟩
  · show tmS vals ((0, v) :: l) st = _
    rw [tmS, if_pos rfl]
theorem tgX_qua {q : Nat} (h : q < 10) : tgX 1 [(1, (q : Int))] (fun vals => vals q) := by
  intro vals
  have e : tgV vals (1000 + (q : Int)) = vals q := by
    unfold tgV
    rw [if_pos (by omega), show (1000 + (q : Int) - 1000).toNat = q by omega]
  refine ⟨fun l st hl => ⟨?_, fun hg => ?_⟩, fun l st => ?_⟩
  · show tgC vals ((1000 + (q : Int)) :: l) st = _
    rw [tgC, if_pos (by omega), e]
  · show tgG vals ((1000 + (q : Int)) :: l) st
    unfold tgG
    refine ⟨fun _ => ⟨by omega, by rw [e]; exact hg⟩, fun c => by omega, fun c => by omega, fun c => by omega⟩
  · show tmS vals ((1, (q : Int)) :: l) st = _
    rw [tmS, if_neg (by show ¬ (1 : Int) = 0; decide), if_pos rfl]
    rfl
theorem tgX_bin {D1 D2 D : Nat} {s1 s2 : List (Int × Int)} {d1 d2 : (Nat → Int32) → Int32} {h : Int} (h1 : tgX D1 s1 d1) (h2 : tgX D2 s2 d2) (hD : D1 ≤ D ∧ 1 + D2 ≤ D) (hh : 2 ≤ h ∧ h ≤ 10 ∧ h ≠ 8) (he : ∀ vals, tgR (tgE (h, 0)) (d1 vals) (d2 vals) = tmR h (d1 vals) (d2 vals)) : tgX D (s1 ++ (s2 ++ [(h, 0)])) (fun vals => tmR h (d1 vals) (d2 vals)) := by
  intro vals
  have hE : 2000 ≤ tgE (h, 0) ∧ tgE (h, 0) < 3000 ∧ tgE (h, 0) ≠ 2008 := by
    unfold tgE
    dsimp only
    rw [if_neg (by omega), if_neg (by omega), if_neg (by omega)]
    split
    · omega
    · split <;> omega
  refine ⟨fun l st hl => ?_, fun l st => ?_⟩
  · have e : (s1 ++ (s2 ++ [(h, 0)])).map tgE ++ l = s1.map tgE ++ (s2.map tgE ++ (tgE (h, 0) :: l)) := by
      rw [List.map_append, List.map_append, List.append_assoc, List.append_assoc]
      rfl
    rw [e]
    obtain ⟨a1, a2⟩ := (h1 vals).1 (s2.map tgE ++ (tgE (h, 0) :: l)) st (by omega)
    obtain ⟨b1, b2⟩ := (h2 vals).1 (tgE (h, 0) :: l) (d1 vals :: st) (by rw [List.length_cons]; omega)
    have c1 : tgC vals (tgE (h, 0) :: l) (d2 vals :: d1 vals :: st) = tgC vals l (tmR h (d1 vals) (d2 vals) :: st) := by
      rw [tgC, if_neg (by omega), if_neg (by omega), if_pos (by omega)]
      show tgC vals l (tgR (tgE (h, 0)) (d1 vals) (d2 vals) :: st) = _
      rw [he vals]
    refine ⟨a1.trans (b1.trans c1), fun hg => a2 (b2 ?_)⟩
    unfold tgG
    refine ⟨fun c => by omega, fun c => by omega, fun _ => ⟨by rw [List.length_cons, List.length_cons]; omega, ?_⟩, fun c => by omega⟩
    show tgG vals l (tgR (tgE (h, 0)) (d1 vals) (d2 vals) :: st)
    rw [he vals]
    exact hg
  · have e : s1 ++ (s2 ++ [(h, 0)]) ++ l = s1 ++ (s2 ++ ((h, 0) :: l)) := by
      rw [List.append_assoc, List.append_assoc]
      rfl
    rw [e, (h1 vals).2, (h2 vals).2, tmS, if_neg (by show ¬ h = 0; omega), if_neg (by show ¬ h = 1; omega), if_neg (by show ¬ h = 8; omega)]
    rfl
theorem tgY_not {D : Nat} {s : List (Int × Int)} {d : (Nat → Int32) → Int32} (h : tgY D s d) : tgY D (s ++ [(8, 0)]) (fun vals => Int32.ofInt 1 - d vals) := by
  have hx : ∀ vals, d vals ^^^ Int32.ofInt 1 = Int32.ofInt 1 - d vals := fun vals => by
    rcases h.2 vals with e | e <;> rw [e] <;> decide
  refine ⟨fun vals => ⟨fun l st hl => ?_, fun l st => ?_⟩, fun vals => ?_⟩
  · have e : (s ++ [((8 : Int), (0 : Int))]).map tgE ++ l = s.map tgE ++ ((2008 : Int) :: l) := by
      rw [List.map_append, List.append_assoc]
      rfl
    rw [e]
    obtain ⟨a1, a2⟩ := (h.1 vals).1 ((2008 : Int) :: l) st hl
    refine ⟨a1.trans ?_, fun hg => a2 ?_⟩
    · rw [tgC, if_neg (by decide), if_pos rfl]
      show tgC vals l ((d vals ^^^ Int32.ofInt 1) :: st) = _
      rw [hx vals]
    · unfold tgG
      refine ⟨fun c => by omega, fun _ => ⟨by rw [List.length_cons]; omega, ?_⟩, fun c => absurd rfl c.2.2, fun c => by omega⟩
      show tgG vals l ((d vals ^^^ Int32.ofInt 1) :: st)
      rw [hx vals]
      exact hg
  · rw [List.append_assoc, (h.1 vals).2]
    show tmS vals (((8 : Int), (0 : Int)) :: l) (d vals :: st) = _
    rw [tmS, if_neg (by show ¬ (8 : Int) = 0; decide), if_neg (by show ¬ (8 : Int) = 1; decide), if_pos rfl]
    rfl
  · show Int32.ofInt 1 - d vals = Int32.ofInt 0 ∨ Int32.ofInt 1 - d vals = Int32.ofInt 1
    rcases h.2 vals with e | e <;> rw [e]
    · exact Or.inr (by decide)
    · exact Or.inl (by decide)
theorem tmR_rel {h : Int} (hh : h = 5 ∨ h = 6 ∨ h = 7) (x y : Int32) : tgR (tgE (h, 0)) x y = tmR h x y ∧ (tmR h x y = Int32.ofInt 0 ∨ tmR h x y = Int32.ofInt 1) := by
  rcases hh with rfl | rfl | rfl
  · refine ⟨rfl, ?_⟩
    by_cases g : x < y
    · exact Or.inr (if_pos g)
    · exact Or.inl (if_neg g)
  · refine ⟨rfl, ?_⟩
    by_cases g : y < x
    · exact Or.inr (if_pos g)
    · exact Or.inl (if_neg g)
  · refine ⟨rfl, ?_⟩
    by_cases g : x = y
    · exact Or.inr (if_pos g)
    · exact Or.inl (if_neg g)
theorem tgY_rel {D1 D2 D : Nat} {s1 s2 : List (Int × Int)} {d1 d2 : (Nat → Int32) → Int32} {h : Int} (h1 : tgX D1 s1 d1) (h2 : tgX D2 s2 d2) (hD : D1 ≤ D ∧ 1 + D2 ≤ D) (hh : h = 5 ∨ h = 6 ∨ h = 7) : tgY D (s1 ++ (s2 ++ [(h, 0)])) (fun vals => tmR h (d1 vals) (d2 vals)) :=
  ⟨tgX_bin h1 h2 hD (by omega) (fun vals => (tmR_rel hh _ _).1), fun vals => (tmR_rel hh _ _).2⟩
theorem tgX_sum {D1 D2 D : Nat} {s1 s2 : List (Int × Int)} {d1 d2 : (Nat → Int32) → Int32} {h : Int} (h1 : tgX D1 s1 d1) (h2 : tgX D2 s2 d2) (hD : D1 ≤ D ∧ 1 + D2 ≤ D) (hh : h = 2 ∨ h = 3 ∨ h = 4) : tgX D (s1 ++ (s2 ++ [(h, 0)])) (fun vals => tmR h (d1 vals) (d2 vals)) :=
  tgX_bin h1 h2 hD (by omega) (fun vals => by rcases hh with rfl | rfl | rfl <;> rfl)
theorem tgY_and {D1 D2 D : Nat} {s1 s2 : List (Int × Int)} {d1 d2 : (Nat → Int32) → Int32} {h : Int} (h1 : tgY D1 s1 d1) (h2 : tgY D2 s2 d2) (hD : D1 ≤ D ∧ 1 + D2 ≤ D) (hh : h = 9 ∨ h = 10) : tgY D (s1 ++ (s2 ++ [(h, 0)])) (fun vals => tmR h (d1 vals) (d2 vals)) := by
  refine ⟨tgX_bin h1.1 h2.1 hD (by omega) (fun vals => ?_), fun vals => ?_⟩
  · rcases hh with rfl | rfl <;> rcases h1.2 vals with e1 | e1 <;> rcases h2.2 vals with e2 | e2 <;> rw [e1, e2] <;> decide
  · show tmR h (d1 vals) (d2 vals) = Int32.ofInt 0 ∨ tmR h (d1 vals) (d2 vals) = Int32.ofInt 1
    rcases hh with rfl | rfl <;> rcases h1.2 vals with e1 | e1 <;> rcases h2.2 vals with e2 | e2 <;> rw [e1, e2] <;> decide
/-- rules: who falls, and what must be so -/
abbrev tgRu : Type := List (Int × List (Int × Int))
def tgCode (rs : tgRu) : List Int := rs.flatMap (fun q => q.2.map tgE ++ [3000 + q.1])
def tgOk (rs : tgRu) : Prop := ∀ q, q ∈ rs → (0 ≤ q.1 ∧ q.1 ≤ 2) ∧ ∃ D d, D ≤ 64 ∧ tgY D q.2 d
def tmW (vals : Nat → Int32) : tgRu → Int
  | [] => 0
  | q :: rs => if tmS vals q.2 [] = [Int32.ofInt 1] then q.1 else tmW vals rs
theorem tgW_eq {vals : Nat → Int32} : ∀ {rs : tgRu}, tgOk rs → tgC vals (tgCode rs) [] = tmW vals rs ∧ tgG vals (tgCode rs) []
  | [], _ => ⟨rfl, trivial⟩
  | q :: rs, h => by
    obtain ⟨i1, i2⟩ := tgW_eq (vals := vals) (rs := rs) (fun x hx => h x (List.mem_cons_of_mem _ hx))
    obtain ⟨⟨w1, w2⟩, D, d, hD, hx, hb⟩ := h q List.mem_cons_self
    have e : tgCode (q :: rs) = q.2.map tgE ++ ((3000 + q.1) :: tgCode rs) := by
      show (q.2.map tgE ++ [3000 + q.1]) ++ tgCode rs = _
      rw [List.append_assoc]
      rfl
    obtain ⟨a1, a2⟩ := (hx vals).1 ((3000 + q.1) :: tgCode rs) [] (by rw [List.length_nil]; omega)
    have m1 := (hx vals).2 [] []
    rw [List.append_nil] at m1
    have m2 : tmS vals q.2 [] = [d vals] := m1
    rw [e]
    refine ⟨a1.trans ?_, a2 ?_⟩
    · rw [tgC, if_neg (by omega), if_neg (by omega), if_neg (by omega)]
      show (if d vals = Int32.ofInt 0 then tgC vals (tgCode rs) [] else 3000 + q.1 - 3000) = (if tmS vals q.2 [] = [Int32.ofInt 1] then q.1 else tmW vals rs)
      rw [m2]
      rcases hb vals with g | g
      · rw [g, if_pos rfl, if_neg (by decide)]
        exact i1
      · rw [g, if_neg (by decide), if_pos rfl]
        omega
    · unfold tgG
      exact ⟨fun c => by omega, fun c => by omega, fun c => by omega, fun _ => ⟨by rw [List.length_cons]; omega, fun _ => i2⟩⟩
theorem tmW_rg {vals : Nat → Int32} : ∀ {rs : tgRu}, tgOk rs → tmW vals rs = 0 ∨ tmW vals rs = 1 ∨ tmW vals rs = 2
  | [], _ => Or.inl rfl
  | q :: rs, h => by
    have h1 := (h q List.mem_cons_self).1
    have e : tmW vals (q :: rs) = if tmS vals q.2 [] = [Int32.ofInt 1] then q.1 else tmW vals rs := rfl
    rw [e]
    split
    · omega
    · exact tmW_rg (fun x hx => h x (List.mem_cons_of_mem _ hx))
/-- the reference's codes in its rows -/
def tmCo (H : mjH) (a : Nat) (seg : List (Int × Int)) : Prop := ∀ (i : Nat) (q : Int × Int), seg[i]? = some q → gI H (118 + (a + i)) 0 = Int32.ofInt q.1 ∧ gI H (118 + (a + i)) 1 = Int32.ofInt q.2 ∧ (0 ≤ q.1 ∧ q.1 ≤ 10) ∧ (q.1 = 1 → 0 ≤ q.2 ∧ q.2 < 10)
theorem pm_by {s : Int} {x y : Int32} (hT : HT H) (hs : 0 ≤ s ∧ s ≤ 10) (h8 : s ≠ 8) (h2 : 2 ≤ s) (h : Pn none m 238 0 [(0, .int (Int32.ofInt s)), (1, .int x), (2, .int y)] [] H r H') : r = .inl (some (.int (tmR s x y))) ∧ H' = H := by
  have hb := m_by hT ⟨rfl, rfl, rfl, trivial⟩ h
  rw [zz_ti] at hb
  unfold tmR
  rcases hb with ⟨c, e⟩ | ⟨c, e⟩ | ⟨c, e⟩ | ⟨c, e⟩ | ⟨c, e⟩ | ⟨c, e⟩ | ⟨c, e⟩ | ⟨c, e⟩ | ⟨c, e⟩
  · rw [if_neg (by omega), if_neg (by omega), if_neg (by omega), if_neg (by omega), if_neg (by omega), if_neg (by omega), if_neg (by omega)]
    rcases e with ⟨g, e⟩ | ⟨g, e⟩
    · rw [if_pos g]
      exact e
    · rw [if_neg g]
      exact e
  · rw [if_pos c]
    exact e
  · rw [if_neg (by omega), if_pos c]
    exact e
  · rw [if_neg (by omega), if_neg (by omega), if_pos c]
    exact e
  · rw [if_neg (by omega), if_neg (by omega), if_neg (by omega), if_pos c]
    rcases e with ⟨g, e⟩ | ⟨g, e⟩
    · rw [if_neg (fun z => by rw [Int32.lt_iff_toInt_lt] at z; rw [Int32.le_iff_toInt_le] at g; omega)]
      exact e
    · rw [if_pos (by rw [Int32.le_iff_toInt_le] at g; rw [Int32.lt_iff_toInt_lt]; omega)]
      exact e
  · rw [if_neg (by omega), if_neg (by omega), if_neg (by omega), if_neg (by omega), if_pos c]
    rcases e with ⟨g, e⟩ | ⟨g, e⟩
    · rw [if_neg (fun z => by rw [Int32.lt_iff_toInt_lt] at z; rw [Int32.le_iff_toInt_le] at g; omega)]
      exact e
    · rw [if_pos (by rw [Int32.le_iff_toInt_le] at g; rw [Int32.lt_iff_toInt_lt]; omega)]
      exact e
  · rw [if_neg (by omega), if_neg (by omega), if_neg (by omega), if_neg (by omega), if_neg (by omega), if_pos c]
    rcases e with ⟨g, e⟩ | ⟨g, e⟩
    · rw [if_neg g]
      exact e
    · rw [if_pos (Classical.not_not.mp g)]
      exact e
  · exact absurd c h8
  · rw [if_neg (by omega), if_neg (by omega), if_neg (by omega), if_neg (by omega), if_neg (by omega), if_neg (by omega), if_pos c]
    exact e
/-- the quantities of a meeting -/
def qv (md lf : Nat → Int64) (o p : Nat) (a hu n : Int) (w : Nat) : Nat → Int32
  | 0 => Int32.ofInt a
  | 1 => Int32.ofInt hu
  | 2 => Int32.ofInt (pp (md o) : Int)
  | 3 => Int32.ofInt (pp (md p) : Int)
  | 4 => Int32.ofInt (o : Int)
  | 5 => Int32.ofInt (p : Int)
  | 6 => Int32.ofInt (w : Int)
  | 7 => Int32.ofInt n
  | 8 => Int32.ofInt (pp (lf w) : Int)
  | _ => Int32.ofInt (pp (md o &&& md p) : Int)
/-- what is told of a meeting -/
def tmT (H : mjH) (md lf : Nat → Int64) (o p : Nat) (a hu n : Int) (w : Nat) : Prop := (gI H 569 0 = Int32.ofInt (o : Int) ∧ gI H 569 1 = Int32.ofInt (p : Int) ∧ gI H 569 2 = Int32.ofInt a) ∧ (gI H 569 3 = Int32.ofInt hu ∧ gI H 569 4 = Int32.ofInt n ∧ gI H 569 5 = Int32.ofInt (w : Int)) ∧ (gL H 86 o = md o ∧ gL H 86 p = md p ∧ gL H 89 w = lf w) ∧ (o < 17 ∧ p < 17 ∧ w < 52)
theorem tmT.cg {md lf : Nat → Int64} {o p : Nat} {a hu n : Int} {w : Nat} (h : tmT H md lf o p a hu n w) (hs : ∀ a b, a ≠ 559 → sxEl H1 a b = sxEl H a b) : tmT H1 md lf o p a hu n w := by
  have v1 : ∀ a b, a ≠ 559 → gI H1 a b = gI H a b := fun a b q => by
    unfold gI
    rw [hs a b q]
  have v2 : ∀ a b, a ≠ 559 → gL H1 a b = gL H a b := fun a b q => by
    unfold gL
    rw [hs a b q]
  obtain ⟨⟨h1, h2, h3⟩, ⟨h4, h5, h6⟩, ⟨h7, h8, h9⟩, h10⟩ := h
  exact ⟨⟨(v1 _ _ (by omega)).trans h1, (v1 _ _ (by omega)).trans h2, (v1 _ _ (by omega)).trans h3⟩, ⟨(v1 _ _ (by omega)).trans h4, (v1 _ _ (by omega)).trans h5, (v1 _ _ (by omega)).trans h6⟩, ⟨(v2 _ _ (by omega)).trans h7, (v2 _ _ (by omega)).trans h8, (v2 _ _ (by omega)).trans h9⟩, h10⟩
theorem pm_val {c : Int} {md lf : Nat → Int64} {o p : Nat} {a hu n : Int} {w : Nat} (hT : HT H) (hc : 0 ≤ c ∧ c < 10) (ht : tmT H md lf o p a hu n w) (h : Pn none m 237 0 [(0, .ref 78), (1, .int (Int32.ofInt c))] [] H r H') : r = .inl (some (.int (qv md lf o p a hu n w c.toNat))) ∧ H' = H := by
  obtain ⟨⟨h1, h2, h3⟩, ⟨h4, h5, h6⟩, ⟨h7, h8, h9⟩, ho, hp, hw⟩ := ht
  have hb := m_val hT ⟨rfl, rfl, trivial⟩ h
  rw [zz_ti, h1, h2, h3, h4, h5, h6, zz_cn (n := o), zz_cn (n := p), zz_cn (n := w), h7, h8, h9] at hb
  -- a count
  have cnt : ∀ (x : Int64) (pc : Nat) (L' : mjL) (r2 : Option Value ⊕ Nat) (H2 : mjH), Pn none m 225 0 [(0, .long x)] [] H r2 H2 → ((∃ v, r2 = .inl v ∧ Pn none m 237 pc L' (v.toList ++ []) H2 r H') ∨ (∃ E, r2 = .inr E ∧ r = .inr E ∧ H' = H2)) → (∀ z, Pn none m 237 pc L' [.int z] H r H' → r = .inl (some (.int z)) ∧ H' = H) → r = .inl (some (.int (Int32.ofInt (pp x : Int)))) ∧ H' = H := by
    intro x pc L' r2 H2 q k hz
    obtain ⟨d1, d2⟩ := pm_ones hT q
    subst d1
    rw [d2] at k
    exact hz _ (pn_ret k)
  rcases hb with ⟨g, -, -, L', hL', r2, H2, q, k⟩ | ⟨g, e⟩ | ⟨g, e⟩ | ⟨g, -, L', hL', r2, H2, q, k⟩ | ⟨g, -, L', hL', r2, H2, q, k⟩ | ⟨g, e⟩ | ⟨g, e⟩ | ⟨g, e⟩ | ⟨g, e⟩ | ⟨g, -, L', hL', r2, H2, q, k⟩
  · have e0 : c.toNat = 9 := by omega
    rw [e0]
    exact cnt _ _ L' r2 H2 q k (fun z hz => m_val3 hT hL' hz)
  · rw [show c.toNat = 0 by omega]
    exact e
  · rw [show c.toNat = 1 by omega]
    exact e
  · rw [show c.toNat = 2 by omega]
    exact cnt _ _ L' r2 H2 q k (fun z hz => m_val0 hT hL' hz)
  · rw [show c.toNat = 3 by omega]
    exact cnt _ _ L' r2 H2 q k (fun z hz => m_val1 hT hL' hz)
  · rw [show c.toNat = 4 by omega]
    exact e
  · rw [show c.toNat = 5 by omega]
    exact e
  · rw [show c.toNat = 6 by omega]
    exact e
  · rw [show c.toNat = 7 by omega]
    exact e
  · rw [show c.toNat = 8 by omega]
    exact cnt _ _ L' r2 H2 q k (fun z hz => m_val2 hT hL' hz)
/-- the reference reckons through a rule -/
theorem pm_soL {a0 : Nat} {seg : List (Int × Int)} {md lf : Nat → Int64} {o p : Nat} {a hu n : Int} {w : Nat} {z : Int32} (hlen : a0 + seg.length ≤ 220) : ∀ (m i : Nat) (st : List Int32) (L : mjL) (H : mjH), i ≤ seg.length → st.length ≤ 220 → HT H → (∀ a b, a ≠ 559 → sxEl H a b = sxEl H0 a b) → tmCo H a0 seg → tmT H md lf o p a hu n w → tgS H 559 st → tmS (qv md lf o p a hu n w) (seg.drop i) st = [z] → LG L [(0, .ref 78), (2, .int (Int32.ofInt ((a0 + seg.length : Nat) : Int))), (3, .int (Int32.ofInt (st.length : Int))), (4, .int (Int32.ofInt ((a0 + i : Nat) : Int)))] → Pn none m 239 5 L [] H r H' →
    r = .inl (some (.int (Int32.ofInt (if z = Int32.ofInt 1 then 1 else 0)))) ∧ HT H' ∧ ∀ a b, a ≠ 559 → sxEl H' a b = sxEl H0 a b
  | 0, _, _, _, _, _, _, _, _, _, _, _, _, _, h => Pn0 h
  | m + 1, i, st, L, H, hi, hsl, hT, hF, hco, ht, hst, hz, hL, h => by
    by_cases hie : seg.length ≤ i
    · have e0 : i = seg.length := by omega
      subst e0
      rw [List.drop_length] at hz
      have hz : st = [z] := hz
      subst hz
      have hb := m_soLE hT (by rw [zz_le]; omega) hL h
      have e1 : gI H 559 0 = z := hst 0 z rfl
      rw [e1] at hb
      rcases hb with ⟨c, e1, e2⟩ | ⟨c, e1, e2⟩
      · rw [if_neg c, e2]
        exact ⟨e1, hT, hF⟩
      · rw [if_pos (Classical.not_not.mp c), e2]
        exact ⟨e1, hT, hF⟩
    have hi2 : i < seg.length := by omega
    have k8 : ¬ (Int32.ofInt ((a0 + seg.length : Nat) : Int) ≤ Int32.ofInt ((a0 + i : Nat) : Int)) := by
      rw [zz_le]
      omega
    have hx : seg[i]? = some seg[i] := List.getElem?_eq_getElem hi2
    have hdr : seg.drop i = seg[i] :: seg.drop (i + 1) := List.drop_eq_getElem_cons hi2
    generalize seg[i] = c0 at hx hdr
    obtain ⟨c1, c2, c3, c4⟩ := hco i c0 hx
    rw [← zz_cn (n := a0 + i)] at c1 c2
    rw [hdr] at hz
    have hs : Int32.ofInt ((a0 + i : Nat) : Int) + Int32.ofInt 1 = Int32.ofInt ((a0 + (i + 1) : Nat) : Int) := by
      rw [zz_add]
      exact congrArg Int32.ofInt (by omega)
    have goon : ∀ (st' : List Int32) (L' : mjL) (H1 : mjH), st'.length ≤ 220 → HT H1 → (∀ a b, a ≠ 559 → sxEl H1 a b = sxEl H a b) → tgS H1 559 st' → tmS (qv md lf o p a hu n w) (seg.drop (i + 1)) st' = [z] → LG L' [(0, .ref 78), (2, .int (Int32.ofInt ((a0 + seg.length : Nat) : Int))), (3, .int (Int32.ofInt (st'.length : Int))), (4, .int (Int32.ofInt ((a0 + (i + 1) : Nat) : Int)))] → Pn none m 239 5 L' [] H1 r H' → r = .inl (some (.int (Int32.ofInt (if z = Int32.ofInt 1 then 1 else 0)))) ∧ HT H' ∧ ∀ a b, a ≠ 559 → sxEl H' a b = sxEl H0 a b := by
      intro st' L' H1 k1 k2 k3 k4 k5 k6 k7
      refine pm_soL hlen m (i + 1) st' L' H1 hi2 k1 k2 (fun a b q => (k3 a b q).trans (hF a b q)) (fun j q hj => ?_) (ht.cg k3) k4 k5 k6 k7
      have v1 : ∀ a b, a ≠ 559 → gI H1 a b = gI H a b := fun a b q => by
        unfold gI
        rw [k3 a b q]
      have hj2 := (List.getElem?_eq_some_iff.mp hj).1
      obtain ⟨u1, u2, u3⟩ := hco j q hj
      exact ⟨(v1 _ _ (by omega)).trans u1, (v1 _ _ (by omega)).trans u2, u3⟩
    rw [tmS] at hz
    by_cases cA : c0.1 = 0
    · rw [if_pos cA] at hz
      obtain ⟨-, g1, L', hL', h'⟩ := m_soLA hT k8 (by rw [c1, cA, zz_le]; omega) (fun q => q (by rw [c1, cA])) hL h
      have g2 : st.length < 220 := by
        have := g1.2
        rw [zz_cn] at this
        exact this
      rw [c2, zz_cn (n := st.length)] at h'
      rw [hs, zz_add] at hL'
      exact goon (Int32.ofInt c0.2 :: st) L' _ g2 (HT.pI hT kA_559_100_220_false) (fun a b q => sxEl_ne (by omega)) (tgS_push hT kA_559_100_220_false g2 hst) hz hL' h'
    rw [if_neg cA] at hz
    by_cases cV : c0.1 = 1
    · rw [if_pos cV] at hz
      obtain ⟨-, L', hL', r2, H2, q, k⟩ := m_soLV hT k8 (by rw [c1, cV, zz_le]; omega) (by rw [c1, cV, zz_eq]; omega) hL h
      rw [c2] at q
      obtain ⟨d1, d2⟩ := pm_val hT (c4 cV) ht q
      subst d1
      rw [d2] at k
      obtain ⟨g1, L2, hL2, h3⟩ := m_so1 hT hL' (pn_ret k)
      have g2 : st.length < 220 := by
        have := g1.2
        rw [zz_cn] at this
        exact this
      rw [zz_cn (n := st.length)] at h3
      rw [hs, zz_add] at hL2
      exact goon (qv md lf o p a hu n w c0.2.toNat :: st) L2 _ g2 (HT.pI hT kA_559_100_220_false) (fun a b q => sxEl_ne (by omega)) (tgS_push hT kA_559_100_220_false g2 hst) hz hL2 h3
    rw [if_neg cV] at hz
    by_cases cB : c0.1 = 8
    · rw [if_pos cB] at hz
      obtain ⟨-, g1, L', hL', h'⟩ := m_soLB hT k8 (by rw [c1, cB, zz_le]; omega) (fun q => q (by rw [c1, cB])) hL h
      cases st with
      | nil =>
        have := g1.1
        rw [zz_sub, zz_0, zz_lt] at this
        exact absurd (by show ((([] : List Int32).length : Int)) - 1 < 0; decide) this
      | cons x st =>
        have hl2 : (x :: st).length = st.length + 1 := rfl
        obtain ⟨s1, s2⟩ := tgS_top hst
        have e1 : (Int32.ofInt ((x :: st).length : Int) - Int32.ofInt 1).toNatClampNeg = st.length := by
          rw [zz_sub, show ((x :: st).length : Int) - 1 = (st.length : Int) by omega]
          exact zz_cn
        rw [e1, s1] at h'
        rw [hs] at hL'
        exact goon ((Int32.ofInt 1 - x) :: st) L' _ hsl (HT.pI hT kA_559_100_220_false) (fun a b q => sxEl_ne (by omega)) (tgS_push hT kA_559_100_220_false (by omega) s2) hz hL' h'
    · rw [if_neg cB] at hz
      obtain ⟨-, g1, g0, L', hL', r2, H2, q, k⟩ := m_soLC hT k8 (by rw [c1, zz_le]; omega) (by rw [c1, zz_eq]; exact cB) hL h
      cases st with
      | nil =>
        have := g0.1
        rw [zz_add, zz_0, zz_lt] at this
        exact absurd (show ((([] : List Int32).length : Int)) + -1 < 0 by decide) this
      | cons y st =>
        cases st with
        | nil =>
          have := g1.1
          rw [zz_add, zz_sub, zz_0, zz_lt] at this
          exact absurd (show (((0 + 1 : Nat) : Int)) + -1 - 1 < 0 by decide) this
        | cons x st =>
          have hl2 : (y :: x :: st).length = st.length + 2 := rfl
          obtain ⟨s1, s2⟩ := tgS_top hst
          obtain ⟨s3, s4⟩ := tgS_top s2
          have e0 : Int32.ofInt ((y :: x :: st).length : Int) + Int32.ofInt (-1) = Int32.ofInt ((st.length + 1 : Nat) : Int) := by
            rw [zz_add]
            exact congrArg Int32.ofInt (by omega)
          have e2 : Int32.ofInt ((st.length + 1 : Nat) : Int) - Int32.ofInt 1 = Int32.ofInt (st.length : Int) := by
            rw [zz_sub]
            exact congrArg Int32.ofInt (by omega)
          rw [c1, e0, e2, zz_cn (n := st.length + 1), zz_cn (n := st.length), s3] at q
          rw [show gI H 559 (st.length + 1) = y from s1] at q
          rw [e0] at hL'
          rw [e0, e2] at k
          obtain ⟨d1, d2⟩ := pm_by hT c3 cB (by omega) q
          subst d1
          rw [d2] at k
          obtain ⟨-, L2, hL2, h3⟩ := m_so2 hT hL' (pn_ret k)
          rw [zz_cn (n := st.length)] at h3
          rw [hs] at hL2
          exact goon (tmR c0.1 x y :: st) L2 _ (by rw [List.length_cons]; omega) (HT.pI hT kA_559_100_220_false) (fun a b q => sxEl_ne (by omega)) (tgS_push hT kA_559_100_220_false (by omega) s4) hz hL2 h3
end PCTM

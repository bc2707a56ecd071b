/-! a year, as lists: as the class walks through it (Mondays of draws alone), as the reference does (all weeks) -/
section YEAR
/-- what a year rests on: by weeks who is dead, who falls out; who falls (0 both, 1 the new, 2 the old one); who is so in the world that is -/
abbrev yE : Type := (Nat → Nat → Bool) × (Nat → Nat → Nat → Bool) × (Nat → Nat → Int → Int → Int → Nat → Int) × (Nat → Bool)
abbrev yE.dead (s : yE) : Nat → Nat → Bool := s.1
abbrev yE.fal (s : yE) : Nat → Nat → Nat → Bool := s.2.1
abbrev yE.who (s : yE) : Nat → Nat → Int → Int → Int → Nat → Int := s.2.2.1
abbrev yE.tru (s : yE) : Nat → Bool := s.2.2.2
def yU (f : Nat → Int) (k : Nat) (v : Int) : Nat → Int := fun x => if x = k then v else f x
theorem yU_at {f : Nat → Int} {k : Nat} {v : Int} : yU f k v k = v := if_pos rfl
theorem yU_ne {f : Nat → Int} {k x : Nat} {v : Int} (h : x ≠ k) : yU f k v x = f x := if_neg h
abbrev yT := List Nat × Bool × (Nat → Int) × (Nat → Int)
/-- a new piece meets those that are held: the class -/
def ycM (E : yE) (vbg : Nat → Int) (w p : Nat) : List Nat → Bool → Int → (Nat → Int) → (Nat → Int) → yT
  | [], st, _, en, fo => ([], st, en, fo)
  | o :: r, false, s, en, fo => (o :: (ycM E vbg w p r false s en fo).1, (ycM E vbg w p r false s en fo).2)
  | o :: r, true, s, en, fo =>
    if E.fal w o p = true then
      if E.who o p ((w : Int) - vbg o) (if E.tru o = true then 0 else (w : Int) - vbg o) s w = 0 then ycM E vbg w p r false (s - 1) (yU (yU en p w) o w) (yU (yU fo p o) o p)
      else if E.who o p ((w : Int) - vbg o) (if E.tru o = true then 0 else (w : Int) - vbg o) s w = 1 then (o :: (ycM E vbg w p r false s (yU en p w) (yU fo p o)).1, (ycM E vbg w p r false s (yU en p w) (yU fo p o)).2)
      else ycM E vbg w p r true (s - 1) (yU en o w) (yU fo o p)
    else (o :: (ycM E vbg w p r true s en fo).1, (ycM E vbg w p r true s en fo).2)
/-- the reference -/
def yrM (E : yE) (vwk vhu : Nat → Int) (w p : Nat) : List Nat → Bool → Int → (Nat → Int) → (Nat → Int) → yT
  | [], st, _, fi, fb => ([], st, fi, fb)
  | o :: r, false, _, fi, fb => (o :: r, false, fi, fb)
  | o :: r, true, s, fi, fb =>
    if E.fal w o p = true then
      if E.who o p (vwk o) (vhu o) s w = 0 then yrM E vwk vhu w p r false (s - 1) (yU (yU fi p w) o w) (yU (yU fb p o) o p)
      else if E.who o p (vwk o) (vhu o) s w = 1 then (o :: r, false, yU fi p w, yU fb p o)
      else yrM E vwk vhu w p r true (s - 1) (yU fi o w) (yU fb o p)
    else (o :: (yrM E vwk vhu w p r true s fi fb).1, (yrM E vwk vhu w p r true s fi fb).2)
variable {E : yE} {vbg vwk vhu : Nat → Int} {w p : Nat}
theorem ycM_no : ∀ (l : List Nat) (s : Int) (en fo : Nat → Int), ycM E vbg w p l false s en fo = (l, false, en, fo)
  | [], _, _, _ => rfl
  | o :: r, s, en, fo => by
    unfold ycM
    rw [ycM_no r s en fo]
theorem yrM_no : ∀ (l : List Nat) (s : Int) (fi fb : Nat → Int), yrM E vwk vhu w p l false s fi fb = (l, false, fi, fb)
  | [], _, _, _ => rfl
  | _ :: _, _, _, _ => rfl
/-- what a meeting writes: alike on both sides -/
def yW (w p : Nat) (l l' : List Nat) (st st' : Bool) (en fo fi fb en' fo' fi' fb' : Nat → Int) : Prop :=
  ∀ x, (((x ∈ l ∧ ¬ x ∈ l') ∨ (x = p ∧ st = true ∧ st' = false)) → en' x = (w : Int) ∧ fi' x = (w : Int) ∧ fo' x = fb' x) ∧
    (¬ ((x ∈ l ∧ ¬ x ∈ l') ∨ (x = p ∧ st = true ∧ st' = false)) → en' x = en x ∧ fo' x = fo x ∧ fi' x = fi x ∧ fb' x = fb x)
theorem yW_rf {l : List Nat} {st : Bool} {en fo fi fb : Nat → Int} : yW w p l l st st en fo fi fb en fo fi fb := by
  intro x
  refine ⟨fun h => ?_, fun _ => ⟨rfl, rfl, rfl, rfl⟩⟩
  rcases h with h | h
  · exact absurd h.1 h.2
  · rw [h.2.1] at h
    exact absurd h.2.2 (by decide)
/-- one that stays, ahead of the others -/
theorem yW_keep {o : Nat} {l l' : List Nat} {st st' : Bool} {en fo fi fb en' fo' fi' fb' : Nat → Int} (ho : ¬ o ∈ l) (hs : ∀ x, x ∈ l' → x ∈ l) (h : yW w p l l' st st' en fo fi fb en' fo' fi' fb') : yW w p (o :: l) (o :: l') st st' en fo fi fb en' fo' fi' fb' := by
  intro x
  have key : ((x ∈ o :: l ∧ ¬ x ∈ o :: l') ∨ (x = p ∧ st = true ∧ st' = false)) ↔ ((x ∈ l ∧ ¬ x ∈ l') ∨ (x = p ∧ st = true ∧ st' = false)) := by
    constructor
    · rintro (⟨h1, h2⟩ | h1)
      · rcases List.mem_cons.mp h1 with e | e
        · exact absurd (List.mem_cons.mpr (Or.inl e)) h2
        · exact Or.inl ⟨e, fun g => h2 (List.mem_cons_of_mem _ g)⟩
      · exact Or.inr h1
    · rintro (⟨h1, h2⟩ | h1)
      · refine Or.inl ⟨List.mem_cons_of_mem _ h1, fun g => ?_⟩
        rcases List.mem_cons.mp g with e | e
        · rw [e] at h1
          exact ho h1
        · exact h2 e
      · exact Or.inr h1
  rw [key]
  exact h x
theorem yM_eq (hW : ∀ o a h s, E.who o p a h s w = 0 ∨ E.who o p a h s w = 1 ∨ E.who o p a h s w = 2) : ∀ (l : List Nat) (st : Bool) (s : Int) (en fo fi fb : Nat → Int), l.Nodup → ¬ p ∈ l → (∀ o, o ∈ l → vwk o = (w : Int) - vbg o ∧ vhu o = if E.tru o = true then 0 else (w : Int) - vbg o) →
    (ycM E vbg w p l st s en fo).1 = (yrM E vwk vhu w p l st s fi fb).1 ∧ (ycM E vbg w p l st s en fo).2.1 = (yrM E vwk vhu w p l st s fi fb).2.1 ∧ (∀ x, x ∈ (yrM E vwk vhu w p l st s fi fb).1 → x ∈ l) ∧ (yrM E vwk vhu w p l st s fi fb).1.Nodup ∧
    yW w p l (yrM E vwk vhu w p l st s fi fb).1 st (yrM E vwk vhu w p l st s fi fb).2.1 en fo fi fb (ycM E vbg w p l st s en fo).2.2.1 (ycM E vbg w p l st s en fo).2.2.2 (yrM E vwk vhu w p l st s fi fb).2.2.1 (yrM E vwk vhu w p l st s fi fb).2.2.2
  | l, false, s, en, fo, fi, fb, hn, _, _ => by
    rw [ycM_no, yrM_no]
    exact ⟨rfl, rfl, fun _ h => h, hn, yW_rf⟩
  | [], true, s, en, fo, fi, fb, hn, _, _ => ⟨rfl, rfl, fun _ h => h, hn, yW_rf⟩
  | o :: r, true, s, en, fo, fi, fb, hn, hp, hk => by
    have hn2 := List.nodup_cons.mp hn
    have hp2 : ¬ p ∈ r := fun g => hp (List.mem_cons_of_mem _ g)
    have hpo : p ≠ o := fun g => hp (List.mem_cons.mpr (Or.inl g))
    have hk2 : ∀ x, x ∈ r → vwk x = (w : Int) - vbg x ∧ vhu x = if E.tru x = true then 0 else (w : Int) - vbg x := fun x hx => hk x (List.mem_cons_of_mem _ hx)
    obtain ⟨ho1, ho2⟩ := hk o List.mem_cons_self
    unfold ycM yrM
    by_cases hf : E.fal w o p = true
    · rw [if_pos hf, if_pos hf, ho1, ho2]
      by_cases h0 : E.who o p ((w : Int) - vbg o) (if E.tru o = true then 0 else (w : Int) - vbg o) s w = 0
      · rw [if_pos h0, if_pos h0, ycM_no, yrM_no]
        refine ⟨rfl, rfl, fun x hx => List.mem_cons_of_mem _ hx, hn2.2, fun x => ⟨fun h => ?_, fun h => ?_⟩⟩
        · show yU (yU en p w) o w x = (w : Int) ∧ yU (yU fi p w) o w x = (w : Int) ∧ yU (yU fo p o) o p x = yU (yU fb p o) o p x
          by_cases e : x = o
          · rw [e]
            exact ⟨yU_at, yU_at, by rw [yU_at, yU_at]⟩
          · have hx : x = p := by
              rcases h with h | h
              · rcases List.mem_cons.mp h.1 with g | g
                · exact absurd g e
                · exact absurd g h.2
              · exact h.1
            rw [hx, yU_ne hpo, yU_ne hpo, yU_ne hpo, yU_ne hpo]
            exact ⟨yU_at, yU_at, by rw [yU_at, yU_at]⟩
        · have e1 : x ≠ o := fun g => h (Or.inl ⟨List.mem_cons.mpr (Or.inl g), fun g2 => hn2.1 (by rw [← g]; exact g2)⟩)
          have e2 : x ≠ p := fun g => h (Or.inr ⟨g, rfl, rfl⟩)
          show yU (yU en p w) o w x = en x ∧ yU (yU fo p o) o p x = fo x ∧ yU (yU fi p w) o w x = fi x ∧ yU (yU fb p o) o p x = fb x
          rw [yU_ne e1, yU_ne e1, yU_ne e1, yU_ne e1, yU_ne e2, yU_ne e2, yU_ne e2, yU_ne e2]
          exact ⟨rfl, rfl, rfl, rfl⟩
      by_cases h1 : E.who o p ((w : Int) - vbg o) (if E.tru o = true then 0 else (w : Int) - vbg o) s w = 1
      · rw [if_neg h0, if_neg h0, if_pos h1, if_pos h1, ycM_no]
        refine ⟨rfl, rfl, fun x hx => hx, hn, fun x => ⟨fun h => ?_, fun h => ?_⟩⟩
        · have hx : x = p := by
            rcases h with h | h
            · exact absurd h.1 h.2
            · exact h.1
          show yU en p w x = (w : Int) ∧ yU fi p w x = (w : Int) ∧ yU fo p o x = yU fb p o x
          rw [hx]
          exact ⟨yU_at, yU_at, by rw [yU_at, yU_at]⟩
        · have e2 : x ≠ p := fun g => h (Or.inr ⟨g, rfl, rfl⟩)
          show yU en p w x = en x ∧ yU fo p o x = fo x ∧ yU fi p w x = fi x ∧ yU fb p o x = fb x
          rw [yU_ne e2, yU_ne e2, yU_ne e2, yU_ne e2]
          exact ⟨rfl, rfl, rfl, rfl⟩
      · rw [if_neg h0, if_neg h0, if_neg h1, if_neg h1]
        obtain ⟨i1, i2, i3, i4, i5⟩ := yM_eq hW r true (s - 1) (yU en o w) (yU fo o p) (yU fi o w) (yU fb o p) hn2.2 hp2 hk2
        refine ⟨i1, i2, fun x hx => List.mem_cons_of_mem _ (i3 x hx), i4, fun x => ?_⟩
        have hx := i5 x
        by_cases e : x = o
        · have hxr : ¬ x ∈ r := by
            rw [e]
            exact hn2.1
          have hxl : ¬ x ∈ (yrM E vwk vhu w p r true (s - 1) (yU fi o w) (yU fb o p)).1 := fun g => hxr (i3 x g)
          have hxp : x ≠ p := fun g => hpo (g.symm.trans e)
          have h2 := hx.2 (fun g => by
            rcases g with g | g
            · exact hxr g.1
            · exact hxp g.1)
          rw [e, yU_at, yU_at, yU_at, yU_at] at h2
          refine ⟨fun _ => ?_, fun g => (g (Or.inl ⟨List.mem_cons.mpr (Or.inl e), hxl⟩)).elim⟩
          rw [e]
          exact ⟨h2.1, h2.2.2.1, by rw [h2.2.1, h2.2.2.2]⟩
        · rw [yU_ne e, yU_ne e, yU_ne e, yU_ne e] at hx
          have key : ((x ∈ o :: r ∧ ¬ x ∈ (yrM E vwk vhu w p r true (s - 1) (yU fi o w) (yU fb o p)).1) ∨ (x = p ∧ true = true ∧ (yrM E vwk vhu w p r true (s - 1) (yU fi o w) (yU fb o p)).2.1 = false)) ↔ ((x ∈ r ∧ ¬ x ∈ (yrM E vwk vhu w p r true (s - 1) (yU fi o w) (yU fb o p)).1) ∨ (x = p ∧ true = true ∧ (yrM E vwk vhu w p r true (s - 1) (yU fi o w) (yU fb o p)).2.1 = false)) := by
            constructor
            · rintro (⟨h1, h2⟩ | h1)
              · rcases List.mem_cons.mp h1 with g | g
                · exact absurd g e
                · exact Or.inl ⟨g, h2⟩
              · exact Or.inr h1
            · rintro (⟨h1, h2⟩ | h1)
              · exact Or.inl ⟨List.mem_cons_of_mem _ h1, h2⟩
              · exact Or.inr h1
          rw [key]
          exact hx
    · rw [if_neg hf, if_neg hf]
      obtain ⟨i1, i2, i3, i4, i5⟩ := yM_eq hW r true s en fo fi fb hn2.2 hp2 hk2
      refine ⟨congrArg (o :: ·) i1, i2, fun x hx => ?_, List.nodup_cons.mpr ⟨fun g => hn2.1 (i3 o g), i4⟩, yW_keep hn2.1 i3 i5⟩
      rcases List.mem_cons.mp hx with g | g
      · exact List.mem_cons.mpr (Or.inl g)
      · exact List.mem_cons_of_mem _ (i3 x g)
theorem yNd : ∀ {l : List Nat} {p : Nat}, l.Nodup → ¬ p ∈ l → (l ++ [p]).Nodup
  | [], _, _, _ => List.nodup_cons.mpr ⟨fun g => (by cases g), List.nodup_nil⟩
  | a :: l, p, h, hp => List.nodup_cons.mpr ⟨fun g => by
      rcases List.mem_append.mp g with q | q
      · exact (List.nodup_cons.mp h).1 q
      · exact hp (List.mem_cons.mpr (Or.inl (List.mem_singleton.mp q).symm)), yNd (List.nodup_cons.mp h).2 (fun g => hp (List.mem_cons_of_mem _ g))⟩
/-- the state of a year: the class, the reference -/
abbrev yC : Type := (List Nat) × (Nat → Int) × (Nat → Int) × (Nat → Int)
abbrev yC.ch (s : yC) : List Nat := s.1
abbrev yC.bg (s : yC) : Nat → Int := s.2.1
abbrev yC.en (s : yC) : Nat → Int := s.2.2.1
abbrev yC.fo (s : yC) : Nat → Int := s.2.2.2
abbrev yR : Type := (List Nat) × (Nat → Int) × (Nat → Int) × (Nat → Int) × (Nat → Int) × (Nat → Int)
abbrev yR.hr (s : yR) : List Nat := s.1
abbrev yR.dr (s : yR) : Nat → Int := s.2.1
abbrev yR.fi (s : yR) : Nat → Int := s.2.2.1
abbrev yR.fb (s : yR) : Nat → Int := s.2.2.2.1
abbrev yR.wk (s : yR) : Nat → Int := s.2.2.2.2.1
abbrev yR.hu (s : yR) : Nat → Int := s.2.2.2.2.2
/-- the first week in which a piece is dead (52: none) -/
def yDn (E : yE) (p : Nat) : Nat → Int
  | 0 => 52
  | n + 1 => if yDn E p n = 52 then (if E.dead n p = true then (n : Int) else 52) else yDn E p n
def yDw (E : yE) (p : Nat) : Int := yDn E p 52
theorem yDn_no {x : Nat} : ∀ n, (∀ v : Nat, v < n → E.dead v x = false) → yDn E x n = 52
  | 0, _ => rfl
  | n + 1, h => by
    have ih := yDn_no n (fun v hv => h v (Nat.lt_succ_of_lt hv))
    unfold yDn
    rw [if_pos ih, if_neg (by rw [h n (Nat.lt_succ_self n)]; decide)]
theorem yDn_up {x m : Nat} {v : Int} (h : yDn E x m = v) (hv : v ≠ 52) : ∀ d, yDn E x (m + d) = v
  | 0 => h
  | d + 1 => by
    have ih := yDn_up h hv d
    show (if yDn E x (m + d) = 52 then (if E.dead (m + d) x = true then ((m + d : Nat) : Int) else 52) else yDn E x (m + d)) = v
    rw [ih, if_neg hv]
def ycB (E : yE) (w : Nat) (s : yC) : yC := ⟨s.ch.filter (fun x => !E.dead w x), s.bg, fun x => if x ∈ s.ch ∧ E.dead w x = true then yDw E x else s.en x, s.fo⟩
/-- a draw: the class -/
def ycD (E : yE) (w p : Nat) (s : yC) : yC :=
  if E.dead w p = true then ⟨s.ch, yU s.bg p w, yU s.en p w, yU s.fo p (-1)⟩
  else
    if (ycM E (yU s.bg p w) w p s.ch true (s.ch.length : Int) (yU s.en p 52) (yU s.fo p (-1))).2.1 = true then
      ⟨(ycM E (yU s.bg p w) w p s.ch true (s.ch.length : Int) (yU s.en p 52) (yU s.fo p (-1))).1 ++ [p], yU s.bg p w, yU (ycM E (yU s.bg p w) w p s.ch true (s.ch.length : Int) (yU s.en p 52) (yU s.fo p (-1))).2.2.1 p 52, yU (ycM E (yU s.bg p w) w p s.ch true (s.ch.length : Int) (yU s.en p 52) (yU s.fo p (-1))).2.2.2 p (-1)⟩
    else ⟨(ycM E (yU s.bg p w) w p s.ch true (s.ch.length : Int) (yU s.en p 52) (yU s.fo p (-1))).1, yU s.bg p w, (ycM E (yU s.bg p w) w p s.ch true (s.ch.length : Int) (yU s.en p 52) (yU s.fo p (-1))).2.2.1, (ycM E (yU s.bg p w) w p s.ch true (s.ch.length : Int) (yU s.en p 52) (yU s.fo p (-1))).2.2.2⟩
def ycW (E : yE) (row : Nat → Option Nat) (w : Nat) (s : yC) : yC := match row w with
  | some p => ycD E w p (ycB E w s)
  | none => ycB E w s
/-- kills, a draw, ages: the reference -/
def yrK (E : yE) (w : Nat) (s : yR) : yR := ⟨s.hr.filter (fun x => !E.dead w x), s.dr, fun x => if x ∈ s.hr ∧ E.dead w x = true then (w : Int) else s.fi x, s.fb, s.wk, s.hu⟩
def yrD (E : yE) (w p : Nat) (s : yR) : yR :=
  if E.dead w p = true then ⟨s.hr, yU s.dr p w, yU s.fi p w, s.fb, s.wk, s.hu⟩
  else
    ⟨if (yrM E s.wk s.hu w p s.hr true (s.hr.length : Int) s.fi s.fb).2.1 = true then (yrM E s.wk s.hu w p s.hr true (s.hr.length : Int) s.fi s.fb).1 ++ [p] else (yrM E s.wk s.hu w p s.hr true (s.hr.length : Int) s.fi s.fb).1, yU s.dr p w, (yrM E s.wk s.hu w p s.hr true (s.hr.length : Int) s.fi s.fb).2.2.1, (yrM E s.wk s.hu w p s.hr true (s.hr.length : Int) s.fi s.fb).2.2.2, s.wk, s.hu⟩
def yrA (E : yE) (s : yR) : yR := ⟨s.hr, s.dr, s.fi, s.fb, fun x => if x ∈ s.hr then s.wk x + 1 else s.wk x, fun x => if x ∈ s.hr ∧ ¬ E.tru x = true then s.hu x + 1 else s.hu x⟩
def yrW (E : yE) (row : Nat → Option Nat) (w : Nat) (s : yR) : yR := match row w with
  | some p => yrA E (yrD E w p (yrK E w s))
  | none => yrA E (yrK E w s)
/-- so they agree ahead of a week -/
abbrev yI (E : yE) (w : Nat) (c : yC) (r : yR) : Prop := (c.ch = r.hr) ∧ (r.hr.Nodup) ∧ (c.bg = r.dr) ∧ (∀ x, x ∈ r.hr → 0 ≤ r.dr x ∧ r.dr x < (w : Int) ∧ c.en x = 52 ∧ r.fi x = -1 ∧ c.fo x = -1 ∧ r.fb x = -1 ∧ r.wk x = (w : Int) - r.dr x ∧ (∀ v : Nat, v < w → E.dead v x = false)) ∧ (∀ x, ¬ x ∈ r.hr → 0 ≤ r.dr x → c.en x = r.fi x ∧ r.dr x ≤ r.fi x ∧ r.fi x < (w : Int) ∧ c.fo x = r.fb x ∧ r.wk x = r.fi x - r.dr x) ∧ (∀ x, r.dr x < 0 → r.dr x = -1 ∧ ¬ x ∈ r.hr ∧ r.fi x = -1 ∧ r.fb x = -1 ∧ r.wk x = 0) ∧ (∀ x, r.hu x = if E.tru x = true then 0 else r.wk x)
theorem yI.ls {E : yE} {w : Nat} {c : yC} {r : yR} (h : yI E w c r) : c.ch = r.hr := h.1
theorem yI.nd {E : yE} {w : Nat} {c : yC} {r : yR} (h : yI E w c r) : r.hr.Nodup := h.2.1
theorem yI.bd {E : yE} {w : Nat} {c : yC} {r : yR} (h : yI E w c r) : c.bg = r.dr := h.2.2.1
theorem yI.hd {E : yE} {w : Nat} {c : yC} {r : yR} (h : yI E w c r) : ∀ x, x ∈ r.hr → 0 ≤ r.dr x ∧ r.dr x < (w : Int) ∧ c.en x = 52 ∧ r.fi x = -1 ∧ c.fo x = -1 ∧ r.fb x = -1 ∧ r.wk x = (w : Int) - r.dr x ∧ (∀ v : Nat, v < w → E.dead v x = false) := h.2.2.2.1
theorem yI.fl {E : yE} {w : Nat} {c : yC} {r : yR} (h : yI E w c r) : ∀ x, ¬ x ∈ r.hr → 0 ≤ r.dr x → c.en x = r.fi x ∧ r.dr x ≤ r.fi x ∧ r.fi x < (w : Int) ∧ c.fo x = r.fb x ∧ r.wk x = r.fi x - r.dr x := h.2.2.2.2.1
theorem yI.no {E : yE} {w : Nat} {c : yC} {r : yR} (h : yI E w c r) : ∀ x, r.dr x < 0 → r.dr x = -1 ∧ ¬ x ∈ r.hr ∧ r.fi x = -1 ∧ r.fb x = -1 ∧ r.wk x = 0 := h.2.2.2.2.2.1
theorem yI.hu {E : yE} {w : Nat} {c : yC} {r : yR} (h : yI E w c r) : ∀ x, r.hu x = if E.tru x = true then 0 else r.wk x := h.2.2.2.2.2.2
theorem yDw_eq {x w : Nat} (hw : w < 52) (h : E.dead w x = true) (h2 : ∀ v : Nat, v < w → E.dead v x = false) : yDw E x = (w : Int) := by
  have h3 : yDn E x (w + 1) = (w : Int) := by
    unfold yDn
    rw [if_pos (yDn_no w h2), if_pos h]
  have h4 := yDn_up h3 (by omega) (52 - (w + 1))
  rw [show w + 1 + (52 - (w + 1)) = 52 by omega] at h4
  exact h4
/-- all that are held are buried alike -/
theorem yK_eq {c : yC} {r : yR} (hw : w < 52) (h : yI E w c r) : (ycB E w c).ch = (yrK E w r).hr ∧ (yrK E w r).hr.Nodup ∧ (ycB E w c).bg = (yrK E w r).dr ∧
    (∀ x, x ∈ (yrK E w r).hr → x ∈ r.hr ∧ E.dead w x = false ∧ (ycB E w c).en x = c.en x ∧ (yrK E w r).fi x = r.fi x) ∧
    (∀ x, x ∈ r.hr → ¬ x ∈ (yrK E w r).hr → (ycB E w c).en x = (w : Int) ∧ (yrK E w r).fi x = (w : Int)) ∧
    (∀ x, ¬ x ∈ r.hr → (ycB E w c).en x = c.en x ∧ (yrK E w r).fi x = r.fi x) := by
  have hm : ∀ x, x ∈ (yrK E w r).hr ↔ x ∈ r.hr ∧ E.dead w x = false := by
    intro x
    show x ∈ r.hr.filter (fun x => !E.dead w x) ↔ _
    rw [List.mem_filter]
    constructor
    · rintro ⟨h1, h2⟩
      refine ⟨h1, ?_⟩
      cases e : E.dead w x with
      | false => rfl
      | true =>
        rw [e] at h2
        cases h2
    · rintro ⟨h1, h2⟩
      exact ⟨h1, by rw [h2]; rfl⟩
  have ec : ∀ {x : Nat}, (ycB E w c).en x = if x ∈ c.ch ∧ E.dead w x = true then yDw E x else c.en x := rfl
  have er : ∀ {x : Nat}, (yrK E w r).fi x = if x ∈ r.hr ∧ E.dead w x = true then (w : Int) else r.fi x := rfl
  refine ⟨?_, ?_, h.bd, fun x hx => ?_, fun x hx hn => ?_, fun x hn => ?_⟩
  · show c.ch.filter (fun x => !E.dead w x) = r.hr.filter (fun x => !E.dead w x)
    rw [h.ls]
  · exact List.Pairwise.filter _ h.nd
  · obtain ⟨h1, h2⟩ := (hm x).mp hx
    have hn : ¬ E.dead w x = true := by rw [h2]; decide
    refine ⟨h1, h2, ?_, ?_⟩
    · rw [ec, if_neg (fun g => by exact hn g.2)]
    · rw [er, if_neg (fun g => by exact hn g.2)]
  · have hd : E.dead w x = true := by
      cases e : E.dead w x with
      | true => rfl
      | false => exact absurd ((hm x).mpr ⟨hx, e⟩) hn
    refine ⟨?_, ?_⟩
    · rw [ec, if_pos ⟨by rw [h.ls]; exact hx, hd⟩]
      exact yDw_eq hw hd (h.hd x hx).2.2.2.2.2.2.2
    · rw [er, if_pos ⟨hx, hd⟩]
  · refine ⟨?_, ?_⟩
    · rw [ec, if_neg (fun g => by
        have g1 := g.1
        rw [h.ls] at g1
        exact hn g1)]
    · rw [er, if_neg (fun g => by exact hn g.1)]
/-- so they agree in a week, ahead of its ages -/
abbrev yJ (E : yE) (w : Nat) (c : yC) (r : yR) : Prop := (c.ch = r.hr) ∧ (r.hr.Nodup) ∧ (c.bg = r.dr) ∧ (∀ x, x ∈ r.hr → 0 ≤ r.dr x ∧ r.dr x ≤ (w : Int) ∧ c.en x = 52 ∧ r.fi x = -1 ∧ c.fo x = -1 ∧ r.fb x = -1 ∧ r.wk x = (w : Int) - r.dr x ∧ (∀ v : Nat, v ≤ w → E.dead v x = false)) ∧ (∀ x, ¬ x ∈ r.hr → 0 ≤ r.dr x → c.en x = r.fi x ∧ r.dr x ≤ r.fi x ∧ r.fi x ≤ (w : Int) ∧ c.fo x = r.fb x ∧ r.wk x = r.fi x - r.dr x) ∧ (∀ x, r.dr x < 0 → r.dr x = -1 ∧ ¬ x ∈ r.hr ∧ r.fi x = -1 ∧ r.fb x = -1 ∧ r.wk x = 0) ∧ (∀ x, r.hu x = if E.tru x = true then 0 else r.wk x)
theorem yJ.ls {E : yE} {w : Nat} {c : yC} {r : yR} (h : yJ E w c r) : c.ch = r.hr := h.1
theorem yJ.nd {E : yE} {w : Nat} {c : yC} {r : yR} (h : yJ E w c r) : r.hr.Nodup := h.2.1
theorem yJ.bd {E : yE} {w : Nat} {c : yC} {r : yR} (h : yJ E w c r) : c.bg = r.dr := h.2.2.1
theorem yJ.hd {E : yE} {w : Nat} {c : yC} {r : yR} (h : yJ E w c r) : ∀ x, x ∈ r.hr → 0 ≤ r.dr x ∧ r.dr x ≤ (w : Int) ∧ c.en x = 52 ∧ r.fi x = -1 ∧ c.fo x = -1 ∧ r.fb x = -1 ∧ r.wk x = (w : Int) - r.dr x ∧ (∀ v : Nat, v ≤ w → E.dead v x = false) := h.2.2.2.1
theorem yJ.fl {E : yE} {w : Nat} {c : yC} {r : yR} (h : yJ E w c r) : ∀ x, ¬ x ∈ r.hr → 0 ≤ r.dr x → c.en x = r.fi x ∧ r.dr x ≤ r.fi x ∧ r.fi x ≤ (w : Int) ∧ c.fo x = r.fb x ∧ r.wk x = r.fi x - r.dr x := h.2.2.2.2.1
theorem yJ.no {E : yE} {w : Nat} {c : yC} {r : yR} (h : yJ E w c r) : ∀ x, r.dr x < 0 → r.dr x = -1 ∧ ¬ x ∈ r.hr ∧ r.fi x = -1 ∧ r.fb x = -1 ∧ r.wk x = 0 := h.2.2.2.2.2.1
theorem yJ.hu {E : yE} {w : Nat} {c : yC} {r : yR} (h : yJ E w c r) : ∀ x, r.hu x = if E.tru x = true then 0 else r.wk x := h.2.2.2.2.2.2
theorem yK_ok {c : yC} {r : yR} (hw : w < 52) (h : yI E w c r) : yJ E w (ycB E w c) (yrK E w r) := by
  obtain ⟨k1, k2, k3, k4, k5, k6⟩ := yK_eq hw h
  refine ⟨k1, k2, k3, fun x hx => ?_, fun x hx h0 => ?_, fun x h0 => ?_, h.hu⟩
  · obtain ⟨a1, a2, a3, a4⟩ := k4 x hx
    obtain ⟨b1, b2, b3, b4, b5, b6, b7, b8⟩ := h.hd x a1
    refine ⟨b1, Int.le_of_lt b2, a3.trans b3, a4.trans b4, b5, b6, b7, fun v hv => ?_⟩
    rcases Nat.lt_or_ge v w with q | q
    · exact b8 v q
    · rw [show v = w by omega]
      exact a2
  · by_cases hm : x ∈ r.hr
    · obtain ⟨a1, a2⟩ := k5 x hm hx
      obtain ⟨b1, b2, b3, b4, b5, b6, b7, b8⟩ := h.hd x hm
      refine ⟨a1.trans a2.symm, ?_, ?_, b5.trans b6.symm, ?_⟩
      · rw [a2]
        exact Int.le_of_lt b2
      · rw [a2]
        exact Int.le_refl _
      · rw [a2]
        exact b7
    · obtain ⟨a1, a2⟩ := k6 x hm
      obtain ⟨b1, b2, b3, b4, b5⟩ := h.fl x hm h0
      refine ⟨a1.trans (b1.trans a2.symm), ?_, ?_, b4, ?_⟩
      · rw [a2]
        exact b2
      · rw [a2]
        exact Int.le_of_lt b3
      · rw [a2]
        exact b5
  · obtain ⟨b1, b2, b3, b4, b5⟩ := h.no x h0
    obtain ⟨a1, a2⟩ := k6 x b2
    exact ⟨b1, fun g => b2 (k4 x g).1, a2.trans b3, b4, b5⟩
theorem yA_ok {c : yC} {r : yR} (h : yJ E w c r) : yI E (w + 1) c (yrA E r) := by
  have e1 : ((w + 1 : Nat) : Int) = (w : Int) + 1 := by omega
  refine ⟨h.ls, h.nd, h.bd, fun x hx => ?_, fun x hx h0 => ?_, fun x h0 => ?_, fun x => ?_⟩
  · have hx : x ∈ r.hr := hx
    obtain ⟨b1, b2, b3, b4, b5, b6, b7, b8⟩ := h.hd x hx
    have e2 : (yrA E r).wk x = r.wk x + 1 := by
      show (if x ∈ r.hr then r.wk x + 1 else r.wk x) = r.wk x + 1
      rw [if_pos hx]
    refine ⟨b1, ?_, b3, b4, b5, b6, ?_, fun v hv => b8 v (by omega)⟩
    · show r.dr x < ((w + 1 : Nat) : Int)
      omega
    · rw [e2, e1]
      show r.wk x + 1 = (w : Int) + 1 - r.dr x
      omega
  · have hx : ¬ x ∈ r.hr := hx
    obtain ⟨b1, b2, b3, b4, b5⟩ := h.fl x hx h0
    have e2 : (yrA E r).wk x = r.wk x := by
      show (if x ∈ r.hr then r.wk x + 1 else r.wk x) = r.wk x
      rw [if_neg hx]
    refine ⟨b1, b2, ?_, b4, by rw [e2]; exact b5⟩
    show r.fi x < ((w + 1 : Nat) : Int)
    omega
  · obtain ⟨b1, b2, b3, b4, b5⟩ := h.no x h0
    have e2 : (yrA E r).wk x = r.wk x := by
      show (if x ∈ r.hr then r.wk x + 1 else r.wk x) = r.wk x
      rw [if_neg b2]
    exact ⟨b1, b2, b3, b4, by rw [e2]; exact b5⟩
  · have h1 := h.hu x
    show (if x ∈ r.hr ∧ ¬ E.tru x = true then r.hu x + 1 else r.hu x) = if E.tru x = true then 0 else (if x ∈ r.hr then r.wk x + 1 else r.wk x)
    by_cases ht : E.tru x = true
    · rw [if_pos ht] at h1 ⊢
      rw [if_neg (fun g => by exact g.2 ht), h1]
    · rw [if_neg ht] at h1 ⊢
      by_cases hm : x ∈ r.hr
      · rw [if_pos ⟨hm, ht⟩, if_pos hm, h1]
      · rw [if_neg (fun g => by exact hm g.1), if_neg hm, h1]
theorem yD_ok (hW : ∀ o a h s, E.who o p a h s w = 0 ∨ E.who o p a h s w = 1 ∨ E.who o p a h s w = 2) (hM : ∀ v : Nat, v ≤ w → E.dead v p = true → E.dead w p = true) {c : yC} {r : yR} (h : yJ E w c r) (hp : r.dr p < 0) : yJ E w (ycD E w p c) (yrD E w p r) := by
  obtain ⟨n1, n2, n3, n4, n5⟩ := h.no p hp
  by_cases hd : E.dead w p = true
  · have e1 : ycD E w p c = ⟨c.ch, yU c.bg p w, yU c.en p w, yU c.fo p (-1)⟩ := by
      unfold ycD
      rw [if_pos hd]
    have e2 : yrD E w p r = ⟨r.hr, yU r.dr p w, yU r.fi p w, r.fb, r.wk, r.hu⟩ := by
      unfold yrD
      rw [if_pos hd]
    rw [e1, e2]
    refine ⟨h.ls, h.nd, ?_, fun x hx => ?_, fun x hx h0 => ?_, fun x h0 => ?_, h.hu⟩
    · show yU c.bg p w = yU r.dr p w
      rw [h.bd]
    · have hx : x ∈ r.hr := hx
      have hne : x ≠ p := fun g => n2 (by rw [← g]; exact hx)
      show 0 ≤ yU r.dr p w x ∧ yU r.dr p w x ≤ (w : Int) ∧ yU c.en p w x = 52 ∧ yU r.fi p w x = -1 ∧ yU c.fo p (-1) x = -1 ∧ r.fb x = -1 ∧ r.wk x = (w : Int) - yU r.dr p w x ∧ (∀ v : Nat, v ≤ w → E.dead v x = false)
      rw [yU_ne hne, yU_ne hne, yU_ne hne, yU_ne hne]
      exact h.hd x hx
    · have hx : ¬ x ∈ r.hr := hx
      have h0 : 0 ≤ yU r.dr p w x := h0
      show yU c.en p w x = yU r.fi p w x ∧ yU r.dr p w x ≤ yU r.fi p w x ∧ yU r.fi p w x ≤ (w : Int) ∧ yU c.fo p (-1) x = r.fb x ∧ r.wk x = yU r.fi p w x - yU r.dr p w x
      by_cases e : x = p
      · rw [e, yU_at, yU_at, yU_at, yU_at, n4, n5]
        omega
      · rw [yU_ne e] at h0
        rw [yU_ne e, yU_ne e, yU_ne e, yU_ne e]
        exact h.fl x hx h0
    · have h0 : yU r.dr p w x < 0 := h0
      have e : x ≠ p := fun g => by
        rw [g, yU_at] at h0
        omega
      rw [yU_ne e] at h0
      show yU r.dr p w x = -1 ∧ ¬ x ∈ r.hr ∧ yU r.fi p w x = -1 ∧ r.fb x = -1 ∧ r.wk x = 0
      rw [yU_ne e, yU_ne e]
      exact h.no x h0
  · have hl := h.ls
    have hk : ∀ o, o ∈ r.hr → r.wk o = (w : Int) - yU c.bg p w o ∧ r.hu o = if E.tru o = true then 0 else (w : Int) - yU c.bg p w o := by
      intro o ho
      have hne : o ≠ p := fun g => n2 (by rw [← g]; exact ho)
      have h1 := (h.hd o ho).2.2.2.2.2.2.1
      rw [yU_ne hne, h.bd]
      exact ⟨h1, by rw [h.hu o, h1]⟩
    obtain ⟨i1, i2, i3, i4, i5⟩ := yM_eq (E := E) (vbg := yU c.bg p w) (vwk := r.wk) (vhu := r.hu) (w := w) (p := p) hW r.hr true (r.hr.length : Int) (yU c.en p 52) (yU c.fo p (-1)) r.fi r.fb h.nd n2 hk
    have hal : ∀ v : Nat, v ≤ w → E.dead v p = false := by
      intro v hv
      cases e : E.dead v p with
      | false => rfl
      | true => exact absurd (hM v hv e) hd
    unfold ycD yrD
    rw [if_neg hd, if_neg hd, hl]
    generalize ycM E (yU c.bg p w) w p r.hr true (r.hr.length : Int) (yU c.en p 52) (yU c.fo p (-1)) = cm at i1 i2 i5 ⊢
    generalize yrM E r.wk r.hu w p r.hr true (r.hr.length : Int) r.fi r.fb = rm at i1 i2 i3 i4 i5 ⊢
    obtain ⟨cl, cs, ce, cf⟩ := cm
    obtain ⟨rl, rs, re, rf⟩ := rm
    dsimp only at i1 i2 i3 i4 i5 ⊢
    subst i1 i2
    have pl : ¬ p ∈ cl := fun g => n2 (i3 p g)
    -- what stays as it was, what is written
    have keep : ∀ x, x ≠ p → (x ∈ r.hr → x ∈ cl) → ce x = c.en x ∧ cf x = c.fo x ∧ re x = r.fi x ∧ rf x = r.fb x := by
      intro x hne g
      have h1 := (i5 x).2 (by
        rintro (⟨a, b⟩ | ⟨a, -, -⟩)
        · exact b (g a)
        · exact hne a)
      rw [yU_ne hne, yU_ne hne] at h1
      exact h1
    have wri : ∀ x, x ∈ r.hr → ¬ x ∈ cl → ce x = (w : Int) ∧ re x = (w : Int) ∧ cf x = rf x := fun x a b => (i5 x).1 (Or.inl ⟨a, b⟩)
    have bd2 : yU c.bg p w = yU r.dr p w := by rw [h.bd]
    have dre : ∀ x, x ≠ p → yU r.dr p w x = r.dr x := fun x hne => yU_ne hne
    -- those that are held
    have held : ∀ x, x ∈ cl → 0 ≤ yU r.dr p w x ∧ yU r.dr p w x ≤ (w : Int) ∧ ce x = 52 ∧ re x = -1 ∧ cf x = -1 ∧ rf x = -1 ∧ r.wk x = (w : Int) - yU r.dr p w x ∧ (∀ v : Nat, v ≤ w → E.dead v x = false) := by
      intro x hx
      have hne : x ≠ p := fun g => pl (by rw [← g]; exact hx)
      obtain ⟨k1, k2, k3, k4⟩ := keep x hne (fun _ => hx)
      obtain ⟨b1, b2, b3, b4, b5, b6, b7, b8⟩ := h.hd x (i3 x hx)
      rw [dre x hne, k1, k2, k3, k4]
      exact ⟨b1, b2, b3, b4, b5, b6, b7, b8⟩
    have fell : ∀ x, x ≠ p → ¬ x ∈ cl → 0 ≤ yU r.dr p w x → ce x = re x ∧ yU r.dr p w x ≤ re x ∧ re x ≤ (w : Int) ∧ cf x = rf x ∧ r.wk x = re x - yU r.dr p w x := by
      intro x hne hx h0
      rw [dre x hne] at h0 ⊢
      by_cases hm : x ∈ r.hr
      · obtain ⟨k1, k2, k3⟩ := wri x hm hx
        obtain ⟨b1, b2, b3, b4, b5, b6, b7, b8⟩ := h.hd x hm
        rw [k1, k2, k3]
        exact ⟨rfl, b2, Int.le_refl _, rfl, b7⟩
      · obtain ⟨k1, k2, k3, k4⟩ := keep x hne (fun g => absurd g hm)
        rw [k1, k2, k3, k4]
        exact h.fl x hm h0
    have nod : ∀ x, yU r.dr p w x < 0 → yU r.dr p w x = -1 ∧ x ≠ p ∧ ¬ x ∈ cl ∧ re x = -1 ∧ rf x = -1 ∧ r.wk x = 0 := by
      intro x h0
      have e : x ≠ p := fun g => by
        rw [g, yU_at] at h0
        omega
      rw [dre x e] at h0 ⊢
      obtain ⟨b1, b2, b3, b4, b5⟩ := h.no x h0
      obtain ⟨k1, k2, k3, k4⟩ := keep x e (fun g => absurd g b2)
      exact ⟨b1, e, fun g => b2 (i3 x g), k3.trans b3, k4.trans b4, b5⟩
    cases cs with
    | true =>
      have hpk := (i5 p).2 (by
        rintro (⟨a, -⟩ | ⟨-, -, a⟩)
        · exact n2 a
        · cases a)
      rw [if_pos rfl, if_pos rfl]
      refine ⟨rfl, ?_, bd2, fun x hx => ?_, fun x hx h0 => ?_, fun x h0 => ?_, h.hu⟩
      · show (cl ++ [p]).Nodup
        exact yNd i4 pl
      · have hx : x ∈ cl ++ [p] := hx
        show 0 ≤ yU r.dr p w x ∧ yU r.dr p w x ≤ (w : Int) ∧ yU ce p 52 x = 52 ∧ re x = -1 ∧ yU cf p (-1) x = -1 ∧ rf x = -1 ∧ r.wk x = (w : Int) - yU r.dr p w x ∧ (∀ v : Nat, v ≤ w → E.dead v x = false)
        by_cases e : x = p
        · rw [e, yU_at, yU_at, yU_at, hpk.2.2.1, hpk.2.2.2, n3, n4, n5]
          exact ⟨by omega, by omega, rfl, rfl, rfl, rfl, by omega, hal⟩
        · have hx : x ∈ cl := by
            rcases List.mem_append.mp hx with g | g
            · exact g
            · exact absurd (List.mem_singleton.mp g) e
          rw [yU_ne (f := ce) e, yU_ne (f := cf) e]
          exact held x hx
      · have hx : ¬ x ∈ cl ++ [p] := hx
        have e : x ≠ p := fun g => hx (List.mem_append_right _ (List.mem_singleton.mpr g))
        show yU ce p 52 x = re x ∧ yU r.dr p w x ≤ re x ∧ re x ≤ (w : Int) ∧ yU cf p (-1) x = rf x ∧ r.wk x = re x - yU r.dr p w x
        rw [yU_ne (f := ce) e, yU_ne (f := cf) e]
        exact fell x e (fun g => hx (List.mem_append_left _ g)) h0
      · obtain ⟨a1, a2, a3, a4, a5, a6⟩ := nod x h0
        refine ⟨a1, fun g => ?_, a4, a5, a6⟩
        have g : x ∈ cl ++ [p] := g
        rcases List.mem_append.mp g with q | q
        · exact a3 q
        · exact a2 (List.mem_singleton.mp q)
    | false =>
      have hpw := (i5 p).1 (Or.inr ⟨rfl, rfl, rfl⟩)
      rw [if_neg (by decide), if_neg (by decide)]
      refine ⟨rfl, i4, bd2, fun x hx => held x hx, fun x hx h0 => ?_, fun x h0 => ?_, h.hu⟩
      · show ce x = re x ∧ yU r.dr p w x ≤ re x ∧ re x ≤ (w : Int) ∧ cf x = rf x ∧ r.wk x = re x - yU r.dr p w x
        by_cases e : x = p
        · rw [e, yU_at, hpw.1, hpw.2.1, hpw.2.2, n5]
          exact ⟨rfl, Int.le_refl _, Int.le_refl _, rfl, by omega⟩
        · exact fell x e hx h0
      · obtain ⟨a1, a2, a3, a4, a5, a6⟩ := nod x h0
        exact ⟨a1, a3, a4, a5, a6⟩
/-- all weeks ahead of one -/
def ycG (E : yE) (row : Nat → Option Nat) : Nat → yC → yC
  | 0, s => s
  | w + 1, s => ycW E row w (ycG E row w s)
def yrG (E : yE) (row : Nat → Option Nat) : Nat → yR → yR
  | 0, s => s
  | w + 1, s => yrW E row w (yrG E row w s)
theorem ycW_some {row : Nat → Option Nat} {s : yC} (h : row w = some p) : ycW E row w s = ycD E w p (ycB E w s) := by
  unfold ycW
  split
  · rename_i q hq
    rw [h] at hq
    cases hq
    rfl
  · rename_i hq
    rw [h] at hq
    cases hq
theorem ycW_none {row : Nat → Option Nat} {s : yC} (h : row w = none) : ycW E row w s = ycB E w s := by
  unfold ycW
  split
  · rename_i q hq
    rw [h] at hq
    cases hq
  · rfl
theorem yrW_some {row : Nat → Option Nat} {s : yR} (h : row w = some p) : yrW E row w s = yrA E (yrD E w p (yrK E w s)) := by
  unfold yrW
  split
  · rename_i q hq
    rw [h] at hq
    cases hq
    rfl
  · rename_i hq
    rw [h] at hq
    cases hq
theorem yrW_none {row : Nat → Option Nat} {s : yR} (h : row w = none) : yrW E row w s = yrA E (yrK E w s) := by
  unfold yrW
  split
  · rename_i q hq
    rw [h] at hq
    cases hq
  · rfl
def yR0 : yR := ⟨[], fun _ => -1, fun _ => -1, fun _ => -1, fun _ => 0, fun _ => 0⟩
theorem yrG_dr {row : Nat → Option Nat} : ∀ (w : Nat) (x : Nat), 0 ≤ (yrG E row w yR0).dr x → ∃ v, v < w ∧ row v = some x
  | 0, x, h => by
    have h : (0 : Int) ≤ -1 := h
    exact absurd h (by decide)
  | w + 1, x, h => by
    have h : 0 ≤ (yrW E row w (yrG E row w yR0)).dr x := h
    cases hp : row w with
    | some p =>
      rw [yrW_some hp] at h
      have h : 0 ≤ (yrD E w p (yrK E w (yrG E row w yR0))).dr x := h
      have e : (yrD E w p (yrK E w (yrG E row w yR0))).dr = yU (yrG E row w yR0).dr p w := by
        unfold yrD
        split <;> rfl
      rw [e] at h
      by_cases g : x = p
      · exact ⟨w, Nat.lt_succ_self w, by rw [g]; exact hp⟩
      · rw [yU_ne g] at h
        obtain ⟨v, h1, h2⟩ := yrG_dr w x h
        exact ⟨v, Nat.lt_succ_of_lt h1, h2⟩
    | none =>
      rw [yrW_none hp] at h
      obtain ⟨v, h1, h2⟩ := yrG_dr w x h
      exact ⟨v, Nat.lt_succ_of_lt h1, h2⟩
theorem yG_ok {row : Nat → Option Nat} {c : yC} (hc : c.ch = []) (hb : c.bg = fun _ => -1) (hW : ∀ w o p a h s, E.who o p a h s w = 0 ∨ E.who o p a h s w = 1 ∨ E.who o p a h s w = 2) (hM : ∀ v w p : Nat, v ≤ w → E.dead v p = true → E.dead w p = true) (hR : ∀ v w p : Nat, row v = some p → row w = some p → v = w) : ∀ w, w ≤ 52 → yI E w (ycG E row w c) (yrG E row w yR0)
  | 0, _ => by
    refine ⟨hc, List.nodup_nil, hb, fun x hx => ?_, fun x _ h0 => ?_, fun x _ => ⟨rfl, ?_, rfl, rfl, rfl⟩, fun x => ?_⟩
    · have hx : x ∈ ([] : List Nat) := hx
      cases hx
    · have h0 : (0 : Int) ≤ -1 := h0
      exact absurd h0 (by decide)
    · intro g
      have g : x ∈ ([] : List Nat) := g
      cases g
    · show (0 : Int) = if E.tru x = true then 0 else 0
      split <;> rfl
  | w + 1, hw => by
    have ih := yG_ok hc hb hW hM hR w (by omega)
    have hk := yK_ok (by omega) ih
    show yI E (w + 1) (ycW E row w (ycG E row w c)) (yrW E row w (yrG E row w yR0))
    cases hp : row w with
    | some p =>
      rw [ycW_some hp, yrW_some hp]
      refine yA_ok (yD_ok (hW w · p) (fun v hv => hM v w p hv) hk ?_)
      rcases Int.lt_or_le ((yrG E row w yR0).dr p) 0 with g | g
      · exact g
      · obtain ⟨v, h1, h2⟩ := yrG_dr w p g
        have := hR v w p h2 hp
        omega
    | none =>
      rw [ycW_none hp, yrW_none hp]
      exact yA_ok hk
/-- to bury in a later week alone is to bury in both -/
theorem ycB_two {v : Nat} (hv : v ≤ w) (hM : ∀ v w p : Nat, v ≤ w → E.dead v p = true → E.dead w p = true) (s : yC) : ycB E w (ycB E v s) = ycB E w s := by
  have e1 : (s.ch.filter (fun x => !E.dead v x)).filter (fun x => !E.dead w x) = s.ch.filter (fun x => !E.dead w x) := by
    rw [List.filter_filter]
    refine List.filter_congr (fun x _ => ?_)
    cases e : E.dead v x with
    | false => simp
    | true => simp [hM v w x hv e]
  have e2 : (fun x => if x ∈ s.ch.filter (fun x => !E.dead v x) ∧ E.dead w x = true then yDw E x else if x ∈ s.ch ∧ E.dead v x = true then yDw E x else s.en x) = fun x => if x ∈ s.ch ∧ E.dead w x = true then yDw E x else s.en x := by
    funext x
    by_cases h : x ∈ s.ch ∧ E.dead w x = true
    · rw [if_pos h]
      by_cases g : E.dead v x = true
      · rw [if_pos (c := x ∈ s.ch ∧ E.dead v x = true) ⟨h.1, g⟩]
        split <;> rfl
      · rw [if_pos ⟨List.mem_filter.mpr ⟨h.1, by simp [g]⟩, h.2⟩]
    · rw [if_neg h, if_neg (fun g => by exact h ⟨(List.mem_filter.mp g.1).1, g.2⟩), if_neg (fun g => by exact h ⟨g.1, hM v w x hv g.2⟩)]
  show (⟨(s.ch.filter (fun x => !E.dead v x)).filter (fun x => !E.dead w x), s.bg, (fun x => if x ∈ s.ch.filter (fun x => !E.dead v x) ∧ E.dead w x = true then yDw E x else if x ∈ s.ch ∧ E.dead v x = true then yDw E x else s.en x), s.fo⟩ : yC) = ⟨s.ch.filter (fun x => !E.dead w x), s.bg, (fun x => if x ∈ s.ch ∧ E.dead w x = true then yDw E x else s.en x), s.fo⟩
  rw [e1, e2]
theorem ycG_end {row : Nat → Option Nat} {n : Nat} (hM : ∀ v w p : Nat, v ≤ w → E.dead v p = true → E.dead w p = true) (hn : ∀ w, n ≤ w → row w = none) (c : yC) : ∀ d, ycG E row (n + d + 1) c = ycB E (n + d) (ycG E row n c)
  | 0 => ycW_none (hn n (Nat.le_refl n))
  | d + 1 => by
    show ycW E row (n + d + 1) (ycG E row (n + d + 1) c) = ycB E (n + d + 1) (ycG E row n c)
    rw [ycW_none (hn (n + d + 1) (by omega)), ycG_end hM hn c d]
    exact ycB_two (by omega) hM _
/-- what a draw leaves of the others: the reference -/
theorem yD_tr (hW : ∀ o a h s, E.who o p a h s w = 0 ∨ E.who o p a h s w = 1 ∨ E.who o p a h s w = 2) {c : yC} {r : yR} (h : yJ E w c r) (hp : r.dr p < 0) : ∀ x, x ≠ p → (yrD E w p r).dr x = r.dr x ∧ (x ∈ (yrD E w p r).hr → x ∈ r.hr) ∧ (x ∈ r.hr → ¬ x ∈ (yrD E w p r).hr → (yrD E w p r).fi x = (w : Int)) ∧ (¬ x ∈ r.hr → (yrD E w p r).fi x = r.fi x ∧ (yrD E w p r).fb x = r.fb x) := by
  obtain ⟨n1, n2, n3, n4, n5⟩ := h.no p hp
  intro x hne
  by_cases hd : E.dead w p = true
  · have e2 : yrD E w p r = ⟨r.hr, yU r.dr p w, yU r.fi p w, r.fb, r.wk, r.hu⟩ := by
      unfold yrD
      rw [if_pos hd]
    rw [e2]
    exact ⟨yU_ne hne, fun g => g, fun g1 g2 => absurd g1 g2, fun _ => ⟨yU_ne hne, rfl⟩⟩
  · have hk : ∀ o, o ∈ r.hr → r.wk o = (w : Int) - yU c.bg p w o ∧ r.hu o = if E.tru o = true then 0 else (w : Int) - yU c.bg p w o := by
      intro o ho
      have hno : o ≠ p := fun g => n2 (by rw [← g]; exact ho)
      have h1 := (h.hd o ho).2.2.2.2.2.2.1
      rw [yU_ne hno, h.bd]
      exact ⟨h1, by rw [h.hu o, h1]⟩
    obtain ⟨i1, i2, i3, i4, i5⟩ := yM_eq (E := E) (vbg := yU c.bg p w) (vwk := r.wk) (vhu := r.hu) (w := w) (p := p) hW r.hr true (r.hr.length : Int) (yU c.en p 52) (yU c.fo p (-1)) r.fi r.fb h.nd n2 hk
    unfold yrD
    rw [if_neg hd]
    generalize ycM E (yU c.bg p w) w p r.hr true (r.hr.length : Int) (yU c.en p 52) (yU c.fo p (-1)) = cm at i1 i2 i5
    generalize yrM E r.wk r.hu w p r.hr true (r.hr.length : Int) r.fi r.fb = rm at i1 i2 i3 i4 i5 ⊢
    obtain ⟨cl, cs, ce, cf⟩ := cm
    obtain ⟨rl, rs, re, rf⟩ := rm
    dsimp only at i3 i5 ⊢
    refine ⟨yU_ne hne, fun g => ?_, fun g1 g2 => ?_, fun g => ?_⟩
    · split at g
      · rcases List.mem_append.mp g with q | q
        · exact i3 x q
        · exact absurd (List.mem_singleton.mp q) hne
      · exact i3 x g
    · have g3 : ¬ x ∈ rl := fun q => g2 (by
        split
        · exact List.mem_append_left _ q
        · exact q)
      exact ((i5 x).1 (Or.inl ⟨g1, g3⟩)).2.1
    · have h1 := (i5 x).2 (by
        rintro (⟨a, -⟩ | ⟨a, -, -⟩)
        · exact g a
        · exact hne a)
      exact ⟨h1.2.2.1, h1.2.2.2⟩
/-- a week, for those that are not drawn in it -/
theorem yW_tr {row : Nat → Option Nat} (hW : ∀ w o p a h s, E.who o p a h s w = 0 ∨ E.who o p a h s w = 1 ∨ E.who o p a h s w = 2) {c : yC} {r : yR} (hw : w < 52) (h : yI E w c r) (hf : ∀ p, row w = some p → r.dr p < 0) : ∀ x, row w ≠ some x → (yrW E row w r).dr x = r.dr x ∧ (x ∈ (yrW E row w r).hr → x ∈ r.hr) ∧ (x ∈ r.hr → ¬ x ∈ (yrW E row w r).hr → (yrW E row w r).fi x = (w : Int)) ∧ (¬ x ∈ r.hr → (yrW E row w r).fi x = r.fi x ∧ (yrW E row w r).fb x = r.fb x) := by
  obtain ⟨k1, k2, k3, k4, k5, k6⟩ := yK_eq hw h
  have hk := yK_ok hw h
  intro x hx
  cases hp : row w with
  | none =>
    rw [yrW_none hp]
    exact ⟨rfl, fun g => (k4 x g).1, fun g1 g2 => (k5 x g1 g2).2, fun g => ⟨(k6 x g).2, rfl⟩⟩
  | some p =>
    rw [yrW_some hp]
    have hne : x ≠ p := fun g => hx (by rw [g]; exact hp)
    obtain ⟨d1, d2, d3, d4⟩ := yD_tr (hW w · p) hk (hf p hp) x hne
    refine ⟨d1, fun g => (k4 x (d2 g)).1, fun g1 g2 => ?_, fun g => ?_⟩
    · by_cases q : x ∈ (yrK E w r).hr
      · exact d3 q g2
      · exact (d4 q).1.trans (k5 x g1 q).2
    · have h1 := d4 (fun q => g (k4 x q).1)
      exact ⟨h1.1.trans (k6 x g).2, h1.2⟩
theorem yrW_dr {row : Nat → Option Nat} {r : yR} (hp : row w = some p) : (yrW E row w r).dr p = (w : Int) := by
  rw [yrW_some hp]
  show (yrD E w p (yrK E w r)).dr p = (w : Int)
  have e : (yrD E w p (yrK E w r)).dr = yU (yrK E w r).dr p w := by
    unfold yrD
    split <;> rfl
  rw [e]
  exact yU_at
/-- who is held behind a week, told at the end -/
theorem yHeld {row : Nat → Option Nat} {c : yC} (hc : c.ch = []) (hb : c.bg = fun _ => -1) (hW : ∀ w o p a h s, E.who o p a h s w = 0 ∨ E.who o p a h s w = 1 ∨ E.who o p a h s w = 2) (hM : ∀ v w p : Nat, v ≤ w → E.dead v p = true → E.dead w p = true) (hR : ∀ v w p : Nat, row v = some p → row w = some p → v = w) {x : Nat} : ∀ d, w + 1 + d ≤ 52 → (x ∈ (yrG E row (w + 1) yR0).hr ↔ 0 ≤ (yrG E row (w + 1 + d) yR0).dr x ∧ (yrG E row (w + 1 + d) yR0).dr x ≤ (w : Int) ∧ (x ∈ (yrG E row (w + 1 + d) yR0).hr ∨ (w : Int) < (yrG E row (w + 1 + d) yR0).fi x))
  | 0, hd => by
    have I := yG_ok hc hb hW hM hR (w + 1) hd
    show x ∈ (yrG E row (w + 1) yR0).hr ↔ 0 ≤ (yrG E row (w + 1) yR0).dr x ∧ (yrG E row (w + 1) yR0).dr x ≤ (w : Int) ∧ (x ∈ (yrG E row (w + 1) yR0).hr ∨ (w : Int) < (yrG E row (w + 1) yR0).fi x)
    constructor
    · intro g
      obtain ⟨b1, b2, -⟩ := I.hd x g
      exact ⟨b1, by omega, Or.inl g⟩
    · rintro ⟨g1, g2, g3⟩
      by_cases q : x ∈ (yrG E row (w + 1) yR0).hr
      · exact q
      · obtain ⟨b1, b2, b3, -⟩ := I.fl x q g1
        rcases g3 with g3 | g3
        · exact g3
        · omega
  | d + 1, hd => by
    have ih := yHeld hc hb hW hM hR (x := x) d (by omega)
    have I := yG_ok hc hb hW hM hR (w + 1 + d) (by omega)
    have hf : ∀ p, row (w + 1 + d) = some p → (yrG E row (w + 1 + d) yR0).dr p < 0 := by
      intro p hp
      rcases Int.lt_or_le ((yrG E row (w + 1 + d) yR0).dr p) 0 with g | g
      · exact g
      · obtain ⟨v, h1, h2⟩ := yrG_dr (w + 1 + d) p g
        have := hR v (w + 1 + d) p h2 hp
        omega
    have e : yrG E row (w + 1 + (d + 1)) yR0 = yrW E row (w + 1 + d) (yrG E row (w + 1 + d) yR0) := rfl
    rw [ih, e]
    by_cases hp : row (w + 1 + d) = some x
    · have h1 := hf x hp
      have h2 := yrW_dr (E := E) (r := yrG E row (w + 1 + d) yR0) hp
      rw [h2]
      constructor
      · rintro ⟨g, -⟩
        omega
      · rintro ⟨-, g, -⟩
        omega
    · obtain ⟨t1, t2, t3, t4⟩ := yW_tr hW (by omega) I hf x hp
      rw [t1]
      constructor
      · rintro ⟨g1, g2, g3⟩
        refine ⟨g1, g2, ?_⟩
        by_cases q : x ∈ (yrG E row (w + 1 + d) yR0).hr
        · by_cases q2 : x ∈ (yrW E row (w + 1 + d) (yrG E row (w + 1 + d) yR0)).hr
          · exact Or.inl q2
          · refine Or.inr ?_
            rw [t3 q q2]
            omega
        · rcases g3 with g3 | g3
          · exact absurd g3 q
          · refine Or.inr ?_
            rw [(t4 q).1]
            exact g3
      · rintro ⟨g1, g2, g3⟩
        refine ⟨g1, g2, ?_⟩
        by_cases q : x ∈ (yrG E row (w + 1 + d) yR0).hr
        · exact Or.inl q
        · rcases g3 with g3 | g3
          · exact absurd (t2 g3) q
          · rw [(t4 q).1] at g3
            exact Or.inr g3
/-- held: as the class says it at the end -/
theorem yHeld_c {row : Nat → Option Nat} {c : yC} (hc : c.ch = []) (hb : c.bg = fun _ => -1) (hW : ∀ w o p a h s, E.who o p a h s w = 0 ∨ E.who o p a h s w = 1 ∨ E.who o p a h s w = 2) (hM : ∀ v w p : Nat, v ≤ w → E.dead v p = true → E.dead w p = true) (hR : ∀ v w p : Nat, row v = some p → row w = some p → v = w) (hw : w < 52) {x : Nat} : x ∈ (yrG E row (w + 1) yR0).hr ↔ 0 ≤ (ycG E row 52 c).bg x ∧ (ycG E row 52 c).bg x ≤ (w : Int) ∧ (w : Int) < (ycG E row 52 c).en x := by
  have I := yG_ok hc hb hW hM hR 52 (Nat.le_refl _)
  have h := yHeld (w := w) hc hb hW hM hR (x := x) (52 - (w + 1)) (by omega)
  rw [show w + 1 + (52 - (w + 1)) = 52 by omega] at h
  rw [h, I.bd]
  constructor
  · rintro ⟨g1, g2, g3⟩
    refine ⟨g1, g2, ?_⟩
    by_cases q : x ∈ (yrG E row 52 yR0).hr
    · rw [(I.hd x q).2.2.1]
      omega
    · rcases g3 with g3 | g3
      · exact absurd g3 q
      · rw [(I.fl x q g1).1]
        exact g3
  · rintro ⟨g1, g2, g3⟩
    refine ⟨g1, g2, ?_⟩
    by_cases q : x ∈ (yrG E row 52 yR0).hr
    · exact Or.inl q
    · rw [(I.fl x q g1).1] at g3
      exact Or.inr g3
/-- a fate, as both tell it -/
theorem yFate {row : Nat → Option Nat} {c : yC} (hc : c.ch = []) (hb : c.bg = fun _ => -1) (hW : ∀ w o p a h s, E.who o p a h s w = 0 ∨ E.who o p a h s w = 1 ∨ E.who o p a h s w = 2) (hM : ∀ v w p : Nat, v ≤ w → E.dead v p = true → E.dead w p = true) (hR : ∀ v w p : Nat, row v = some p → row w = some p → v = w) {x : Nat} (h0 : 0 ≤ (yrG E row 52 yR0).dr x) :
    (yrG E row 52 yR0).fi x = (if (ycG E row 52 c).en x < 52 then (ycG E row 52 c).en x else -1) ∧ (yrG E row 52 yR0).fb x = (ycG E row 52 c).fo x ∧ (yrG E row 52 yR0).wk x = (ycG E row 52 c).en x - (ycG E row 52 c).bg x := by
  have I := yG_ok hc hb hW hM hR 52 (Nat.le_refl _)
  rw [I.bd]
  by_cases q : x ∈ (yrG E row 52 yR0).hr
  · obtain ⟨b1, b2, b3, b4, b5, b6, b7, b8⟩ := I.hd x q
    rw [b3, b4, b5, b6, b7, if_neg (by decide)]
    exact ⟨rfl, rfl, rfl⟩
  · obtain ⟨b1, b2, b3, b4, b5⟩ := I.fl x q h0
    rw [b1, b4, b5, if_pos (by omega)]
    exact ⟨rfl, rfl, rfl⟩
/-- the pieces drawn ahead of a week -/
def yPre (row : Nat → Option Nat) : Nat → List Nat
  | 0 => []
  | w + 1 => match row w with
    | some p => yPre row w ++ [p]
    | none => yPre row w
theorem yPre_some {row : Nat → Option Nat} (h : row w = some p) : yPre row (w + 1) = yPre row w ++ [p] := by
  show (match row w with | some p => yPre row w ++ [p] | none => yPre row w) = _
  split
  · rename_i q hq
    rw [h] at hq
    cases hq
    rfl
  · rename_i hq
    rw [h] at hq
    cases hq
theorem yPre_none {row : Nat → Option Nat} (h : row w = none) : yPre row (w + 1) = yPre row w := by
  show (match row w with | some p => yPre row w ++ [p] | none => yPre row w) = _
  split
  · rename_i q hq
    rw [h] at hq
    cases hq
  · rfl
theorem yPre_mem {row : Nat → Option Nat} {x : Nat} : ∀ {w : Nat}, x ∈ yPre row w ↔ ∃ v, v < w ∧ row v = some x
  | 0 => ⟨fun h => (by cases h), fun ⟨v, h, _⟩ => absurd h (Nat.not_lt_zero v)⟩
  | w + 1 => by
    have ih := yPre_mem (row := row) (x := x) (w := w)
    cases hp : row w with
    | some p =>
      rw [yPre_some hp, List.mem_append, ih, List.mem_singleton]
      constructor
      · rintro (⟨v, h1, h2⟩ | h)
        · exact ⟨v, Nat.lt_succ_of_lt h1, h2⟩
        · exact ⟨w, Nat.lt_succ_self w, by rw [h]; exact hp⟩
      · rintro ⟨v, h1, h2⟩
        rcases Nat.lt_or_ge v w with q | q
        · exact Or.inl ⟨v, q, h2⟩
        · have e : v = w := by omega
          rw [e, hp] at h2
          exact Or.inr (Option.some.inj h2).symm
    | none =>
      rw [yPre_none hp, ih]
      constructor
      · rintro ⟨v, h1, h2⟩
        exact ⟨v, Nat.lt_succ_of_lt h1, h2⟩
      · rintro ⟨v, h1, h2⟩
        rcases Nat.lt_or_ge v w with q | q
        · exact ⟨v, q, h2⟩
        · have e : v = w := by omega
          rw [e, hp] at h2
          cases h2
theorem yPre_nd {row : Nat → Option Nat} (hR : ∀ v w p : Nat, row v = some p → row w = some p → v = w) : ∀ w, (yPre row w).Nodup
  | 0 => List.nodup_nil
  | w + 1 => by
    have ih := yPre_nd hR w
    cases hp : row w with
    | some p =>
      rw [yPre_some hp]
      refine yNd ih (fun g => ?_)
      obtain ⟨v, h1, h2⟩ := yPre_mem.mp g
      have := hR v w p h2 hp
      omega
    | none =>
      rw [yPre_none hp]
      exact ih
theorem yrM_sub : ∀ (l : List Nat) (st : Bool) (s : Int) (fi fb : Nat → Int), (yrM E vwk vhu w p l st s fi fb).1.Sublist l
  | [], _, _, _, _ => List.Sublist.slnil
  | o :: r, false, _, _, _ => List.Sublist.refl _
  | o :: r, true, s, fi, fb => by
    unfold yrM
    split
    · split
      · rw [yrM_no]
        exact List.Sublist.cons o (List.Sublist.refl r)
      · split
        · exact List.Sublist.refl _
        · exact List.Sublist.cons o (yrM_sub r true _ _ _)
    · exact List.Sublist.cons₂ o (yrM_sub r true _ _ _)
theorem yrG_sub {row : Nat → Option Nat} : ∀ w, (yrG E row w yR0).hr.Sublist (yPre row w)
  | 0 => List.Sublist.slnil
  | w + 1 => by
    have ih := yrG_sub (row := row) w
    have hk : (yrK E w (yrG E row w yR0)).hr.Sublist (yPre row w) := List.Sublist.trans (List.filter_sublist ..) ih
    show (yrW E row w (yrG E row w yR0)).hr.Sublist _
    cases hp : row w with
    | some p =>
      rw [yrW_some hp, yPre_some hp]
      show (yrD E w p (yrK E w (yrG E row w yR0))).hr.Sublist _
      have hl := List.sublist_append_left (yPre row w) [p]
      unfold yrD
      split
      · exact List.Sublist.trans hk hl
      · split
        · exact List.Sublist.append (List.Sublist.trans (yrM_sub _ _ _ _ _) hk) (List.Sublist.refl _)
        · exact List.Sublist.trans (List.Sublist.trans (yrM_sub _ _ _ _ _) hk) hl
    | none =>
      rw [yrW_none hp, yPre_none hp]
      exact hk
theorem ySubF {S L : List Nat} (h : S.Sublist L) : L.Nodup → S = L.filter (fun x => decide (x ∈ S)) := by
  induction h with
  | slnil => exact fun _ => rfl
  | @cons S L a h ih =>
    intro hn
    have hn2 := List.nodup_cons.mp hn
    have ha : ¬ a ∈ S := fun g => hn2.1 (h.subset g)
    rw [List.filter_cons, if_neg (by simp [ha])]
    exact ih hn2.2
  | @cons_cons S L a h ih =>
    intro hn
    have hn2 := List.nodup_cons.mp hn
    rw [List.filter_cons, if_pos (by simp)]
    refine congrArg (a :: ·) ?_
    refine (ih hn2.2).trans (List.filter_congr (fun x hx => ?_))
    have hne : x ≠ a := fun g => hn2.1 (by rw [← g]; exact hx)
    simp [hne]
/-- what comes later leaves those alone that were drawn ahead and aren't held -/
theorem yLate {row : Nat → Option Nat} {c : yC} (hc : c.ch = []) (hb : c.bg = fun _ => -1) (hW : ∀ w o p a h s, E.who o p a h s w = 0 ∨ E.who o p a h s w = 1 ∨ E.who o p a h s w = 2) (hM : ∀ v w p : Nat, v ≤ w → E.dead v p = true → E.dead w p = true) (hR : ∀ v w p : Nat, row v = some p → row w = some p → v = w) {x f : Nat} : ∀ d, f + d ≤ 52 →
    (0 ≤ (yrG E row f yR0).dr x → (yrG E row (f + d) yR0).dr x = (yrG E row f yR0).dr x) ∧ ((yrG E row f yR0).dr x < 0 → (yrG E row (f + d) yR0).dr x < 0 ∨ (f : Int) ≤ (yrG E row (f + d) yR0).dr x) ∧
    (0 ≤ (yrG E row f yR0).dr x → ¬ x ∈ (yrG E row f yR0).hr → ¬ x ∈ (yrG E row (f + d) yR0).hr ∧ (yrG E row (f + d) yR0).fi x = (yrG E row f yR0).fi x ∧ (yrG E row (f + d) yR0).fb x = (yrG E row f yR0).fb x)
  | 0, _ => ⟨fun _ => rfl, fun h => Or.inl h, fun _ h => ⟨h, rfl, rfl⟩⟩
  | d + 1, hd => by
    obtain ⟨i1, i2, i3⟩ := yLate (f := f) hc hb hW hM hR (x := x) d (by omega)
    have I := yG_ok hc hb hW hM hR (f + d) (by omega)
    have hf : ∀ p, row (f + d) = some p → (yrG E row (f + d) yR0).dr p < 0 := by
      intro p hp
      rcases Int.lt_or_le ((yrG E row (f + d) yR0).dr p) 0 with g | g
      · exact g
      · obtain ⟨v, h1, h2⟩ := yrG_dr (f + d) p g
        have := hR v (f + d) p h2 hp
        omega
    have e : yrG E row (f + (d + 1)) yR0 = yrW E row (f + d) (yrG E row (f + d) yR0) := rfl
    rw [e]
    by_cases hp : row (f + d) = some x
    · have h1 := hf x hp
      have h2 := yrW_dr (E := E) (r := yrG E row (f + d) yR0) hp
      refine ⟨fun g => ?_, fun _ => Or.inr ?_, fun g _ => ?_⟩
      · have := i1 g
        omega
      · rw [h2]
        omega
      · have := i1 g
        omega
    · obtain ⟨t1, t2, t3, t4⟩ := yW_tr hW (by omega) I hf x hp
      rw [t1]
      refine ⟨i1, i2, fun g1 g2 => ?_⟩
      obtain ⟨a1, a2, a3⟩ := i3 g1 g2
      obtain ⟨b1, b2⟩ := t4 a1
      exact ⟨fun q => a1 (t2 q), b1.trans a2, b2.trans a3⟩
theorem yDrawn {row : Nat → Option Nat} {x : Nat} : ∀ {f : Nat}, x ∈ yPre row f → (yrG E row f yR0).dr x < 0 → False
  | 0, h, _ => by cases h
  | w + 1, h, g => by
    have e : yrG E row (w + 1) yR0 = yrW E row w (yrG E row w yR0) := rfl
    rw [e] at g
    cases hp : row w with
    | some p =>
      have e2 : (yrW E row w (yrG E row w yR0)).dr = yU (yrG E row w yR0).dr p w := by
        rw [yrW_some hp]
        show (yrD E w p (yrK E w (yrG E row w yR0))).dr = _
        unfold yrD
        split <;> rfl
      rw [e2] at g
      rw [yPre_some hp] at h
      by_cases q : x = p
      · rw [q, yU_at] at g
        omega
      · rw [yU_ne q] at g
        rcases List.mem_append.mp h with k | k
        · exact yDrawn k g
        · exact q (List.mem_singleton.mp k)
    | none =>
      rw [yrW_none hp] at g
      rw [yPre_none hp] at h
      exact yDrawn h g
/-- the class goes back to a Monday: as if nothing had come since -/
def yBk (row : Nat → Option Nat) (f : Nat) (s : yC) : yC := ⟨(yPre row f).filter (fun x => decide ((f : Int) ≤ s.en x)), fun x => if (f : Int) ≤ s.bg x then -1 else s.bg x, fun x => if x ∈ yPre row f ∧ (f : Int) ≤ s.en x then 52 else s.en x, fun x => if x ∈ yPre row f ∧ (f : Int) ≤ s.en x then -1 else s.fo x⟩
theorem yBk_ok {row : Nat → Option Nat} {c c2 : yC} (hc : c.ch = []) (hb : c.bg = fun _ => -1) (hW : ∀ w o p a h s, E.who o p a h s w = 0 ∨ E.who o p a h s w = 1 ∨ E.who o p a h s w = 2) (hM : ∀ v w p : Nat, v ≤ w → E.dead v p = true → E.dead w p = true) (hR : ∀ v w p : Nat, row v = some p → row w = some p → v = w) {f : Nat} (hf : f ≤ 52) (h2 : yI E 52 c2 (yrG E row 52 yR0)) : yI E f (yBk row f c2) (yrG E row f yR0) := by
  have I := yG_ok hc hb hW hM hR f hf
  have L := fun x : Nat => yLate (E := E) (row := row) (c := c) (f := f) hc hb hW hM hR (x := x) (52 - f) (by omega)
  have e52 : f + (52 - f) = 52 := by omega
  -- drawn ahead of the week
  have dp : ∀ x, 0 ≤ (yrG E row f yR0).dr x → x ∈ yPre row f := fun x h => yPre_mem.mpr (yrG_dr f x h)
  have dn : ∀ x, (yrG E row f yR0).dr x < 0 → (yrG E row f yR0).dr x = -1 := fun x h => (I.no x h).1
  -- those that are held then are those whose end is not ahead of it
  have key : ∀ x, 0 ≤ (yrG E row f yR0).dr x → (x ∈ (yrG E row f yR0).hr ↔ (f : Int) ≤ c2.en x) := by
    intro x h0
    obtain ⟨l1, l2, l3⟩ := L x
    rw [e52] at l1 l2 l3
    have l1 := l1 h0
    constructor
    · intro g
      obtain ⟨b1, b2, -⟩ := I.hd x g
      by_cases q : x ∈ (yrG E row 52 yR0).hr
      · rw [(h2.hd x q).2.2.1]
        omega
      · rw [(h2.fl x q (by omega)).1]
        -- fallen behind: told by who is held behind the week ahead
        rcases Nat.eq_zero_or_pos f with z | z
        · omega
        · have h3 := (yHeld (w := f - 1) hc hb hW hM hR (x := x) (52 - f) (by omega)).mp (by rw [show f - 1 + 1 = f by omega]; exact g)
          rw [show f - 1 + 1 + (52 - f) = 52 by omega] at h3
          rcases h3.2.2 with k | k
          · exact absurd k q
          · omega
    · intro g
      by_cases q : x ∈ (yrG E row f yR0).hr
      · exact q
      · obtain ⟨a1, a2, a3⟩ := l3 h0 q
        have h3 := (h2.fl x a1 (by omega)).1
        have h4 := (I.fl x q h0).2.2.1
        omega
  refine ⟨?_, I.nd, ?_, fun x hx => ?_, fun x hx h0 => ?_, I.no, I.hu⟩
  · show (yPre row f).filter (fun x => decide ((f : Int) ≤ c2.en x)) = (yrG E row f yR0).hr
    have h3 := ySubF (yrG_sub (E := E) (row := row) f) (yPre_nd hR f)
    refine Eq.trans (List.filter_congr (fun x hx => ?_)) h3.symm
    have h0 : 0 ≤ (yrG E row f yR0).dr x := by
      rcases Int.lt_or_le ((yrG E row f yR0).dr x) 0 with g | g
      · exfalso
        exact yDrawn hx g
      · exact g
    have h4 := key x h0
    by_cases q : x ∈ (yrG E row f yR0).hr
    · rw [decide_eq_true q, decide_eq_true (h4.mp q)]
    · rw [decide_eq_false q, decide_eq_false (fun g => q (h4.mpr g))]
  · show (fun x => if (f : Int) ≤ c2.bg x then -1 else c2.bg x) = (yrG E row f yR0).dr
    funext x
    rw [h2.bd]
    obtain ⟨l1, l2, l3⟩ := L x
    rw [e52] at l1 l2 l3
    rcases Int.lt_or_le ((yrG E row f yR0).dr x) 0 with g | g
    · have h3 := dn x g
      rcases l2 g with k | k
      · have h4 := (h2.no x k).1
        rw [if_neg (by omega), h3, h4]
      · rw [if_pos k, h3]
    · have h3 := l1 g
      have h4 : (yrG E row f yR0).dr x < (f : Int) := by
        by_cases q : x ∈ (yrG E row f yR0).hr
        · exact (I.hd x q).2.1
        · have := I.fl x q g
          omega
      rw [if_neg (by omega), h3]
  · obtain ⟨b1, b2, b3, b4, b5, b6, b7, b8⟩ := I.hd x hx
    have h3 : x ∈ yPre row f ∧ (f : Int) ≤ c2.en x := ⟨dp x b1, (key x b1).mp hx⟩
    refine ⟨b1, b2, ?_, b4, ?_, b6, b7, b8⟩
    · show (if x ∈ yPre row f ∧ (f : Int) ≤ c2.en x then (52 : Int) else c2.en x) = 52
      rw [if_pos h3]
    · show (if x ∈ yPre row f ∧ (f : Int) ≤ c2.en x then (-1 : Int) else c2.fo x) = -1
      rw [if_pos h3]
  · obtain ⟨b1, b2, b3, b4, b5⟩ := I.fl x hx h0
    have h3 : ¬ (x ∈ yPre row f ∧ (f : Int) ≤ c2.en x) := fun g => hx ((key x h0).mpr g.2)
    obtain ⟨l1, l2, l3⟩ := L x
    rw [e52] at l1 l2 l3
    obtain ⟨a1, a2, a3⟩ := l3 h0 hx
    have l1 := l1 h0
    have h4 := h2.fl x a1 (by omega)
    refine ⟨?_, b2, b3, ?_, b5⟩
    · show (if x ∈ yPre row f ∧ (f : Int) ≤ c2.en x then (52 : Int) else c2.en x) = _
      rw [if_neg h3, h4.1, a2]
    · show (if x ∈ yPre row f ∧ (f : Int) ≤ c2.en x then (-1 : Int) else c2.fo x) = _
      rw [if_neg h3, h4.2.2.2.1, a3]
/-- from a Monday on -/
def ycF (E : yE) (row : Nat → Option Nat) (f : Nat) : Nat → yC → yC
  | 0, s => s
  | d + 1, s => ycW E row (f + d) (ycF E row f d s)
theorem yG_from {row : Nat → Option Nat} {c : yC} {f : Nat} (hW : ∀ w o p a h s, E.who o p a h s w = 0 ∨ E.who o p a h s w = 1 ∨ E.who o p a h s w = 2) (hM : ∀ v w p : Nat, v ≤ w → E.dead v p = true → E.dead w p = true) (hR : ∀ v w p : Nat, row v = some p → row w = some p → v = w) (h : yI E f c (yrG E row f yR0)) : ∀ d, f + d ≤ 52 → yI E (f + d) (ycF E row f d c) (yrG E row (f + d) yR0)
  | 0, _ => h
  | d + 1, hd => by
    have ih := yG_from hW hM hR h d (by omega)
    have hk := yK_ok (by omega) ih
    show yI E (f + d + 1) (ycW E row (f + d) (ycF E row f d c)) (yrW E row (f + d) (yrG E row (f + d) yR0))
    cases hp : row (f + d) with
    | some p =>
      rw [ycW_some hp, yrW_some hp]
      refine yA_ok (yD_ok (hW (f + d) · p) (fun v hv => hM v (f + d) p hv) hk ?_)
      rcases Int.lt_or_le ((yrG E row (f + d) yR0).dr p) 0 with g | g
      · exact g
      · obtain ⟨v, h1, h2⟩ := yrG_dr (f + d) p g
        have := hR v (f + d) p h2 hp
        omega
    | none =>
      rw [ycW_none hp, yrW_none hp]
      exact yA_ok hk
theorem yrG_cg {a b : Nat → Option Nat} {f : Nat} (h : ∀ v, v < f → a v = b v) : ∀ w, w ≤ f → yrG E a w yR0 = yrG E b w yR0
  | 0, _ => rfl
  | w + 1, hw => by
    have ih := yrG_cg h w (by omega)
    have e := h w (by omega)
    show yrW E a w (yrG E a w yR0) = yrW E b w (yrG E b w yR0)
    rw [ih]
    unfold yrW
    rw [e]
theorem yPre_cg {a b : Nat → Option Nat} {f : Nat} (h : ∀ v, v < f → a v = b v) : ∀ w, w ≤ f → yPre a w = yPre b w
  | 0, _ => rfl
  | w + 1, hw => by
    have ih := yPre_cg h w (by omega)
    have e := h w (by omega)
    unfold yPre
    rw [e, ih]
/-- the next ORDER: gone back to the first place that changed, played on from there -/
theorem yNext {a b : Nat → Option Nat} {c c2 : yC} (hc : c.ch = []) (hb : c.bg = fun _ => -1) (hW : ∀ w o p a h s, E.who o p a h s w = 0 ∨ E.who o p a h s w = 1 ∨ E.who o p a h s w = 2) (hM : ∀ v w p : Nat, v ≤ w → E.dead v p = true → E.dead w p = true) (hA : ∀ v w p : Nat, a v = some p → a w = some p → v = w) (hR : ∀ v w p : Nat, b v = some p → b w = some p → v = w) {f : Nat} (hf : f ≤ 52) (hab : ∀ v, v < f → a v = b v) (h2 : yI E 52 c2 (yrG E a 52 yR0)) : yI E 52 (ycF E b f (52 - f) (yBk a f c2)) (yrG E b 52 yR0) := by
  have h1 := yBk_ok hc hb hW hM hA hf h2
  rw [yrG_cg hab f (Nat.le_refl f)] at h1
  have h3 := yG_from hW hM hR h1 (52 - f) (by omega)
  rw [show f + (52 - f) = 52 by omega] at h3
  exact h3
/-! all orders: the class lays the next row, the reference goes down and up -/
def sLow (l : List Nat) : Nat → Option Nat
  | 0 => none
  | i + 1 => if l.getD (i + 1) 0 < l.getD i 0 then sLow l i else some i
def sHigh (l : List Nat) (low : Nat) : Nat → Nat
  | 0 => 0
  | h + 1 => if low < h + 1 ∧ l.getD (h + 1) 0 < l.getD low 0 then sHigh l low h else h + 1
def sAdv (l : List Nat) : Option (Nat × List Nat) := match sLow l (l.length - 1) with
  | none => none
  | some low =>
    let h := sHigh l low (l.length - 1)
    let m := (l.set low (l.getD h 0)).set h (l.getD low 0)
    some (low, m.take (low + 1) ++ (m.drop (low + 1)).reverse)
def sPerm : Nat → List Nat → List (List Nat)
  | 0, _ => [[]]
  | n + 1, av => av.flatMap fun a => (sPerm n (av.erase a)).map (a :: ·)
def sChk : List (List Nat) → Bool
  | [] => true
  | [x] => match sAdv x with
    | none => true
    | some _ => false
  | x :: y :: r => (match sAdv x with
    | some (low, z) => z == y && (x.take low == y.take low)
    | none => false) && sChk (y :: r)
theorem sPerm_ok : (List.range 8).all (fun n => sChk (sPerm n (List.range n)) && ((sPerm n (List.range n)).head? == some (List.range n))) = true := by decide +kernel
end YEAR

/-! AJ: more fuel does no harm; a run with frames below it -/
section AJRUN
def mjLe (r1 r2 : mjRec) : Prop := ∀ (scr : Option (List Int32)) (d k pc : Nat) (ls : mjL) (st : List Value) (hp : mjH) (o : mjO), r1 scr d k pc ls st hp = some o → r2 scr d k pc ls st hp = some o
theorem mjAdd_mono {c s : Nat} {a b : Option mjO} {o : mjO} (h : ∀ o, a = some o → b = some o) (ha : mjAdd c s a = some o) : mjAdd c s b = some o := by
  cases a with
  | none => cases ha
  | some q => rw [h q rfl]; exact ha
theorem mjBack_mono {r1 r2 : mjRec} (h : mjLe r1 r2) {scr : Option (List Int32)} {d k pc : Nat} {hh : List (Nat × Nat × Nat × Nat)} {ls : mjL} {rest : List Value} {r o : mjO} (hb : mjBack r1 scr d k pc hh ls rest r = some o) : mjBack r2 scr d k pc hh ls rest r = some o := by
  obtain ⟨q, hp2, c, s⟩ := r
  cases q with
  | inl v => exact mjAdd_mono (h _ _ _ _ _ _ _) hb
  | inr E =>
    unfold mjBack at hb ⊢
    dsimp only at hb ⊢
    cases hc : mjCatch (hh.zip (mjHd k)) pc E with
    | none => rw [hc] at hb; exact hb
    | some hpc =>
      rw [hc] at hb
      dsimp only at hb ⊢
      split at hb
      · rename_i e
        try rw [e]
        exact mjAdd_mono (h _ _ _ _ _ _ _) hb
      · rename_i e
        try rw [e]
        exact mjAdd_mono (h _ _ _ _ _ _ _) hb
      · cases hb
theorem mjCall_mono {r1 r2 : mjRec} (h : mjLe r1 r2) {scr : Option (List Int32)} {d k pc : Nat} {x : mjX} {hh : List (Nat × Nat × Nat × Nat)} {ls : mjL} {st : List Value} {hp : mjH} {o : mjO} (hb : mjCall r1 scr d k pc x hh ls st hp = some o) : mjCall r2 scr d k pc x hh ls st hp = some o := by
  unfold mjCall at hb ⊢
  cases hM : mjM x.2.2.1 with
  | none => rw [hM] at hb; cases hb
  | some q =>
    obtain ⟨y2, nL2, ret2, own2, hh2, np2, stt2⟩ := q
    rw [hM] at hb
    dsimp only at hb ⊢
    cases hA : mjArgs (if stt2 then np2 else np2 + 1) st with
    | none => rw [hA] at hb; cases hb
    | some q =>
      obtain ⟨as, rest⟩ := q
      rw [hA] at hb
      dsimp only at hb ⊢
      cases d with
      | zero => cases hb
      | succ d' =>
        dsimp only at hb ⊢
        split at hb
        · rename_i hc
          rw [if_pos hc]
          cases hr : r1 none d' x.2.2.1 0 (lv_args 0 as) [] hp with
          | none => rw [hr] at hb; cases hb
          | some r =>
            rw [hr] at hb
            rw [h _ _ _ _ _ _ _ _ hr]
            dsimp only at hb ⊢
            split at hb
            · rename_i hl
              rw [if_pos hl]
              exact mjBack_mono h hb
            · cases hb
        · cases hb
theorem mjText_mono {r1 r2 : mjRec} (h : mjLe r1 r2) {scr : Option (List Int32)} {d k pc : Nat} {x : mjX} {ls : mjL} {st : List Value} {hp : mjH} {o : mjO} (hb : mjText r1 scr d k pc x ls st hp = some o) : mjText r2 scr d k pc x ls st hp = some o := by
  unfold mjText at hb ⊢
  split at hb
  · rename_i h0
    rw [if_pos h0]
    split at hb
    · split at hb
      · rename_i e
        try rw [e]
        try dsimp only
        split at hb
        · rename_i h1
          rw [if_pos h1]
          exact h _ _ _ _ _ _ _ _ hb
        · cases hb
      · cases hb
    · cases hb
  · rename_i h0
    rw [if_neg h0]
    split at hb
    · split at hb
      · rename_i e
        try rw [e]
        try dsimp only
        split at hb
        · rename_i h1
          rw [if_pos h1]
          split at hb
          · rename_i e2
            try rw [e2]
            try dsimp only
            exact h _ _ _ _ _ _ _ _ hb
          · cases hb
        · cases hb
      · cases hb
    · cases hb
noncomputable def mjPl (rec : mjRec) (scr : Option (List Int32)) (d k pc : Nat) (x : mjX) (ls : mjL) (st : List Value) (hp : mjH) : Option mjO := match mjAlu x.1 pc x.2.2.2.1 ls st with
  | some (pc', ls', st') => rec scr d k pc' ls' st' hp
  | none => match mjHp scr x pc st hp with
    | some (pc', st', hp') => rec scr d k pc' ls st' hp'
    | none => none
theorem mjPl_mono {r1 r2 : mjRec} (h : mjLe r1 r2) {scr : Option (List Int32)} {d k pc : Nat} {x : mjX} {ls : mjL} {st : List Value} {hp : mjH} {o : mjO} (hb : mjPl r1 scr d k pc x ls st hp = some o) : mjPl r2 scr d k pc x ls st hp = some o := by
  unfold mjPl at hb ⊢
  split at hb
  · rename_i e
    try rw [e]
    exact h _ _ _ _ _ _ _ _ hb
  · rename_i e
    try rw [e]
    try dsimp only
    split at hb
    · rename_i e2
      try rw [e2]
      exact h _ _ _ _ _ _ _ _ hb
    · cases hb
theorem mjStep_mono {r1 r2 : mjRec} (h : mjLe r1 r2) : mjLe (mjStep r1) (mjStep r2) := by
  intro scr d k pc ls st hp o hb
  unfold mjStep at hb ⊢
  cases hx : mjAtI k pc with
  | none => rw [hx] at hb; cases hb
  | some x =>
    rw [hx] at hb
    dsimp only at hb ⊢
    cases hM : mjM k with
    | none => rw [hM] at hb; cases hb
    | some q =>
      obtain ⟨y, nL, ret, own, hh, np, stt⟩ := q
      rw [hM] at hb
      obtain ⟨i, n, a, b, w⟩ := x
      cases i <;> dsimp only at hb ⊢
      case ireturn => exact hb
      case lreturn => exact hb
      case areturn => exact hb
      case return_ => exact hb
      case new =>
        split at hb
        · rename_i h0
          rw [if_pos h0]
          split at hb
          · rename_i e
            try rw [e]
            try dsimp only
            split at hb
            · rename_i h1
              rw [if_pos h1]
              exact mjAdd_mono (h _ _ _ _ _ _ _) hb
            · cases hb
          · cases hb
        · rename_i h0
          rw [if_neg h0]
          exact hb
      case newarray =>
        split at hb
        · split at hb
          · rename_i h1
            rw [if_pos h1]
            exact mjAdd_mono (h _ _ _ _ _ _ _) hb
          · cases hb
        · cases hb
      case anewarray =>
        split at hb
        · split at hb
          · rename_i h1
            rw [if_pos h1]
            exact mjAdd_mono (h _ _ _ _ _ _ _) hb
          · cases hb
        · cases hb
      case multianewarray =>
        split at hb
        · split at hb
          · rename_i h1
            rw [if_pos h1]
            exact mjAdd_mono (h _ _ _ _ _ _ _) hb
          · cases hb
        · cases hb
      case invokespecial =>
        split at hb
        · rename_i h0
          rw [if_pos h0]
          split at hb
          · split at hb
            · rename_i h1
              rw [if_pos h1]
              exact h _ _ _ _ _ _ _ _ hb
            · cases hb
          · cases hb
        · rename_i h0
          rw [if_neg h0]
          exact mjCall_mono h hb
      case invokevirtual =>
        split at hb
        · rename_i h0
          rw [if_pos h0]
          exact mjText_mono h hb
        · rename_i h0
          rw [if_neg h0]
          exact mjCall_mono h hb
      case invokestatic =>
        split at hb
        · rename_i h0
          rw [if_pos h0]
          split at hb
          · split at hb
            · rename_i h1
              rw [if_pos h1]
              exact h _ _ _ _ _ _ _ _ hb
            · cases hb
          · cases hb
        · rename_i h0
          rw [if_neg h0]
          split at hb
          · rename_i h0
            rw [if_pos h0]
            split at hb
            · split at hb
              · rename_i h1
                rw [if_pos h1]
                exact h _ _ _ _ _ _ _ _ hb
              · cases hb
            · cases hb
          · rename_i h0
            rw [if_neg h0]
            exact mjCall_mono h hb
      all_goals
        (split at hb
         · rename_i e
           try rw [e]
           exact h _ _ _ _ _ _ _ _ hb
         · rename_i e
           try rw [e]
           try dsimp only
           split at hb
           · rename_i e2
             try rw [e2]
             exact h _ _ _ _ _ _ _ _ hb
           · cases hb)
theorem mjEx_succ : ∀ f : Nat, mjLe (mjEx f) (mjEx (f + 1))
  | 0 => fun _ _ _ _ _ _ _ _ h => by cases h
  | f + 1 => mjStep_mono (mjEx_succ f)
theorem mjEx_mono {f g : Nat} (h : f ≤ g) : mjLe (mjEx f) (mjEx g) := by
  induction h with
  | refl => exact fun _ _ _ _ _ _ _ _ h => h
  | step _ ih => exact fun a b c d e f g o h => mjEx_succ _ a b c d e f g o (ih a b c d e f g o h)
abbrev cFr : Type := Nat × Nat × Nat × Nat × mjL × List Value
noncomputable def mjHh (k : Nat) : List (Nat × Nat × Nat × Nat) := match mjM k with
  | some (_, _, _, _, hh, _, _) => hh
  | none => []
def mjSco {α : Type} (s : Option α) (k : Nat) : Option α := if k = mjLaw then s else none
def mjFin (Z : mjO → Prop) (scr : Option (List Int32)) : List cFr → Nat → Nat → mjO → Prop
  | [], C, S, o => Z (o.1, o.2.1, C + o.2.2.1, S + o.2.2.2)
  | q :: F, C, S, o => q.2.2.2.1 ≤ o.2.1.length ∧ ∃ (f : Nat) (o' : mjO), mjBack (mjEx f) (mjSco scr q.2.1) q.1 q.2.1 q.2.2.1 (mjHh q.2.1) q.2.2.2.2.1 q.2.2.2.2.2 o = some o' ∧ mjFin Z scr F C S o'
def mjRn (Z : mjO → Prop) (scr : Option (List Int32)) (F : List cFr) (d k pc : Nat) (ls : mjL) (st : List Value) (hp : mjH) (C S : Nat) : Prop := ∃ (f : Nat) (o : mjO), mjEx f (mjSco scr k) d k pc ls st hp = some o ∧ mjFin Z scr F C S o
theorem mjAdd_add {a b c s : Nat} {e : Option mjO} {o' : mjO} (h : mjAdd c s e = some o') : mjAdd (a + c) (b + s) e = some (o'.1, o'.2.1, a + o'.2.2.1, b + o'.2.2.2) := by
  cases e with
  | none => cases h
  | some q =>
    obtain ⟨q1, q2, q3, q4⟩ := q
    cases h
    show some (q1, q2, a + c + q3, b + s + q4) = some (q1, q2, a + (c + q3), b + (s + q4))
    rw [Nat.add_assoc, Nat.add_assoc]
theorem mjFin_add {Z : mjO → Prop} {scr : Option (List Int32)} {a b : Nat} : ∀ {F : List cFr} {C S : Nat} {o : mjO}, mjFin Z scr F (C + a) (S + b) o → mjFin Z scr F C S (o.1, o.2.1, a + o.2.2.1, b + o.2.2.2)
  | [], C, S, o, h => by
    show Z (o.1, o.2.1, C + (a + o.2.2.1), S + (b + o.2.2.2))
    rw [← Nat.add_assoc, ← Nat.add_assoc]
    exact h
  | q :: F, C, S, o, h => by
    obtain ⟨hn, f, o', hb, hf⟩ := h
    refine ⟨hn, f, (o'.1, o'.2.1, a + o'.2.2.1, b + o'.2.2.2), ?_, mjFin_add hf⟩
    obtain ⟨o1, o2, o3, o4⟩ := o
    cases o1 with
    | inl v => exact mjAdd_add hb
    | inr E =>
      unfold mjBack at hb ⊢
      dsimp only at hb ⊢
      cases hc : mjCatch ((mjHh q.2.1).zip (mjHd q.2.1)) q.2.2.1 E with
      | none => rw [hc] at hb; cases hb; rfl
      | some hpc =>
        rw [hc] at hb
        dsimp only at hb ⊢
        split at hb
        · rename_i e
          try rw [e]
          exact mjAdd_add hb
        · rename_i e
          try rw [e]
          exact mjAdd_add hb
        · cases hb
theorem mjRn.next {Z : mjO → Prop} {scr : Option (List Int32)} {F : List cFr} {d k pc pc' a b : Nat} {ls ls' : mjL} {st st' : List Value} {hp hp' : mjH} {C S : Nat} (hs : ∀ rec : mjRec, mjStep rec (mjSco scr k) d k pc ls st hp = mjAdd a b (rec (mjSco scr k) d k pc' ls' st' hp')) (h : mjRn Z scr F d k pc' ls' st' hp' (C + a) (S + b)) : mjRn Z scr F d k pc ls st hp C S := by
  obtain ⟨f, o, h1, h2⟩ := h
  refine ⟨f + 1, _, ?_, mjFin_add h2⟩
  show mjStep (mjEx f) _ _ _ _ _ _ _ = _
  rw [hs, h1]
  rfl
theorem mjRn.plain {Z : mjO → Prop} {scr : Option (List Int32)} {F : List cFr} {d k pc pc' : Nat} {ls ls' : mjL} {st st' : List Value} {hp hp' : mjH} {C S : Nat} (hs : ∀ rec : mjRec, mjStep rec (mjSco scr k) d k pc ls st hp = rec (mjSco scr k) d k pc' ls' st' hp') (h : mjRn Z scr F d k pc' ls' st' hp' C S) : mjRn Z scr F d k pc ls st hp C S := by
  obtain ⟨f, o, h1, h2⟩ := h
  exact ⟨f + 1, o, (hs (mjEx f)).trans h1, h2⟩
/-- what ends a frame -/
theorem mjRn.stop {Z : mjO → Prop} {scr : Option (List Int32)} {F : List cFr} {d k pc : Nat} {ls : mjL} {st : List Value} {hp : mjH} {C S : Nat} {o : mjO} (hs : ∀ rec : mjRec, mjStep rec (mjSco scr k) d k pc ls st hp = some o) (h : mjFin Z scr F C S o) : mjRn Z scr F d k pc ls st hp C S := ⟨1, o, hs (mjEx 0), h⟩
theorem mjFin.retC {Z : mjO → Prop} {scr : Option (List Int32)} {F : List cFr} {d k pc n c s : Nat} {ls : mjL} {rest : List Value} {hp : mjH} {C S : Nat} {v : Option Value} (hn : n ≤ hp.length) (h : mjRn Z scr F d k (pc + 3) ls (v.toList ++ rest) hp (C + c) (S + s)) : mjFin Z scr ((d, k, pc, n, ls, rest) :: F) C S (.inl v, hp, c, s) := by
  obtain ⟨f, o, h1, h2⟩ := h
  refine ⟨hn, f, (o.1, o.2.1, c + o.2.2.1, s + o.2.2.2), ?_, mjFin_add h2⟩
  show mjAdd c s (mjEx f _ _ _ _ _ _ _) = _
  rw [h1]
  rfl
theorem mjFin.ret {Z : mjO → Prop} {scr : Option (List Int32)} {F : List cFr} {d k pc n : Nat} {ls : mjL} {rest : List Value} {hp : mjH} {C S : Nat} {v : Option Value} (hn : n ≤ hp.length) (h : mjRn Z scr F d k (pc + 3) ls (v.toList ++ rest) hp C S) : mjFin Z scr ((d, k, pc, n, ls, rest) :: F) C S (.inl v, hp, 0, 0) := mjFin.retC hn h
theorem mjFin.pass {Z : mjO → Prop} {scr : Option (List Int32)} {F : List cFr} {d k pc n E c s : Nat} {ls : mjL} {rest : List Value} {hp : mjH} {C S : Nat} (hn : n ≤ hp.length) (hc : mjCatch ((mjHh k).zip (mjHd k)) pc E = none) (h : mjFin Z scr F C S (.inr E, hp, c, s)) : mjFin Z scr ((d, k, pc, n, ls, rest) :: F) C S (.inr E, hp, c, s) := by
  refine ⟨hn, 0, _, ?_, h⟩
  unfold mjBack
  dsimp only
  rw [hc]
theorem mjFin.catch {Z : mjO → Prop} {scr : Option (List Int32)} {F : List cFr} {d k pc n E c s hpc j p : Nat} {ls : mjL} {rest : List Value} {hp : mjH} {C S : Nat} (hn : n ≤ hp.length) (hc : mjCatch ((mjHh k).zip (mjHd k)) pc E = some hpc)
    (ha : (∃ (q : Fin 4) (z : Nat × Nat × Nat × Nat), mjAtI k hpc = some (.astore_n q, z) ∧ j = (q : Nat) ∧ p = hpc + 1) ∨ (∃ (z : Nat × Nat × Nat × Nat), mjAtI k hpc = some (.astore j, z) ∧ p = hpc + 2))
    (h : mjRn Z scr F d k p (mjDel j ls) [] hp (C + c) (S + s)) : mjFin Z scr ((d, k, pc, n, ls, rest) :: F) C S (.inr E, hp, c, s) := by
  obtain ⟨f, o, h1, h2⟩ := h
  refine ⟨hn, f, (o.1, o.2.1, c + o.2.2.1, s + o.2.2.2), ?_, mjFin_add h2⟩
  unfold mjBack
  dsimp only
  rw [hc]
  dsimp only
  rcases ha with ⟨q, z, e, rfl, rfl⟩ | ⟨z, e, rfl⟩
  · rw [e]
    dsimp only
    rw [h1]
    rfl
  · rw [e]
    dsimp only
    rw [h1]
    rfl
end AJRUN

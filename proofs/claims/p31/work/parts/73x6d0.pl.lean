/-! PC: the class's year: a row that is played -/
section PCPL
variable {m : Nat} {L : mjL} {H H' H0 H1 : mjH} {r : Option Value ⊕ Nat} {J Y Q : Nat} {E : yE} {s : yC} {p w : Nat}
/-- what a row tells -/
def yRow (H : mjH) (U len : Nat) (row : Nat → Option Nat) : Prop := (∀ w, w < len → gI H U w = Int32.ofInt (match row w with | some p => (p : Int) | none => -1)) ∧ ∀ w p, row w = some p → p < 17 ∧ w < len
theorem yRow.none {U len : Nat} {row : Nat → Option Nat} (h : yRow H U len row) (hw : len ≤ w) : row w = none := by
  cases e : row w with
  | none => rfl
  | some p =>
    have := (h.2 w p e).2
    omega
theorem yRow.fr {U len : Nat} {row : Nat → Option Nat} (hY : Y = 32 ∨ Y = 38) (hU : U = 31 ∨ U = 28 ∨ 58 ≤ U) (h : yRow H U len row) (hf : yFr Y H H1) : yRow H1 U len row := ⟨fun w hw => by
  rw [hf.vI (by omega)]
  exact h.1 w hw, h.2⟩
theorem ycF_end {row : Nat → Option Nat} {f n : Nat} (hM : ∀ v w p : Nat, v ≤ w → E.dead v p = true → E.dead w p = true) (hn : ∀ w, f + n ≤ w → row w = none) (c : yC) : ∀ d, ycF E row f (n + d + 1) c = ycB E (f + n + d) (ycF E row f n c)
  | 0 => by
    show ycW E row (f + n) (ycF E row f n c) = _
    exact ycW_none (hn (f + n) (Nat.le_refl _))
  | d + 1 => by
    show ycW E row (f + (n + d + 1)) (ycF E row f (n + d + 1) c) = ycB E (f + n + (d + 1)) (ycF E row f n c)
    rw [ycW_none (hn _ (by omega)), ycF_end hM hn c d, show f + (n + d + 1) = f + n + (d + 1) by omega]
    exact ycB_two (by omega) hM _
theorem ycM_in {vbg : Nat → Int} : ∀ (l : List Nat) (st : Bool) (z : Int) (en fo : Nat → Int) {x : Nat}, x ∈ (ycM E vbg w p l st z en fo).1 → x ∈ l
  | [], _, _, _, _, _, h => by cases h
  | o :: l, false, z, en, fo, x, h => by
    rw [ycM_no] at h
    exact h
  | o :: l, true, z, en, fo, x, h => by
    rw [ycM] at h
    generalize (if E.tru o = true then 0 else (w : Int) - vbg o) = hh at h
    split at h
    · split at h
      · exact List.mem_cons_of_mem _ (ycM_in l false _ _ _ h)
      · split at h
        · rcases List.mem_cons.mp h with g | g
          · exact List.mem_cons.mpr (Or.inl g)
          · exact List.mem_cons_of_mem _ (ycM_in l false _ _ _ g)
        · exact List.mem_cons_of_mem _ (ycM_in l true _ _ _ h)
    · rcases List.mem_cons.mp h with g | g
      · exact List.mem_cons.mpr (Or.inl g)
      · exact List.mem_cons_of_mem _ (ycM_in l true _ _ _ g)
theorem ycM_len {vbg : Nat → Int} : ∀ (l : List Nat) (st : Bool) (z : Int) (en fo : Nat → Int), (ycM E vbg w p l st z en fo).1.length ≤ l.length
  | [], _, _, _, _ => Nat.le_refl _
  | o :: l, false, z, en, fo => by
    rw [ycM_no]
    exact Nat.le_refl _
  | o :: l, true, z, en, fo => by
    rw [ycM]
    generalize (if E.tru o = true then 0 else (w : Int) - vbg o) = hh
    split
    · split
      · exact Nat.le_succ_of_le (ycM_len l false _ _ _)
      · split
        · exact Nat.succ_le_succ (ycM_len l false _ _ _)
        · exact Nat.le_succ_of_le (ycM_len l true _ _ _)
    · exact Nat.succ_le_succ (ycM_len l true _ _ _)
/-- so far as going back has come: the arrays -/
def yGB (H : mjH) (Y f : Nat) (bg en fo : Nat → Int) (i : Nat) : Prop := ycP H Y (fun x => if x < i ∧ (f : Int) ≤ bg x then -1 else bg x) en fo
theorem yGB.z {f : Nat} {bg en fo : Nat → Int} (h : ycP H Y bg en fo) : yGB H Y f bg en fo 0 := fun p hp => by
  have h := h p hp
  rw [show bg p = (if p < 0 ∧ (f : Int) ≤ bg p then -1 else bg p) from (if_neg (by omega)).symm] at h
  exact h
end PCPL

/-! AJ: boxes of scripts -/
section AJBOX
def aIv (lo hi : Int) : aV := if lo = hi then .inl (.int (Int32.ofInt lo)) else .inr (false, lo, hi)
theorem aIv_r {lo hi : Int} {x : Int32} (h1 : lo ≤ x.toInt) (h2 : x.toInt ≤ hi) : aVR (aIv lo hi) (.int x) := by
  unfold aIv
  split
  · rename_i e
    have : x.toInt = lo := by omega
    show Value.int x = .int (Int32.ofInt lo)
    rw [← this, Int32.ofInt_toInt]
  · exact ⟨x, rfl, h1, h2⟩
def aIvs (lo : Int) : List Int → List aV
  | [] => [aIv lo 2147483647]
  | c :: cs => aIv lo c :: aIvs (c + 1) cs
theorem aIvs_r {x : Int32} : ∀ {cs : List Int} {lo : Int}, lo ≤ x.toInt → ∃ a ∈ aIvs lo cs, aVR a (.int x)
  | [], lo, h => ⟨_, List.mem_cons_self, aIv_r h (by have := Int32.toInt_lt x; omega)⟩
  | c :: cs, lo, h => by
    by_cases hc : x.toInt ≤ c
    · exact ⟨_, List.mem_cons_self, aIv_r h hc⟩
    · obtain ⟨a, h1, h2⟩ := aIvs_r (x := x) (cs := cs) (lo := c + 1) (by omega)
      exact ⟨a, List.mem_cons_of_mem _ h1, h2⟩
def aGrid : List (List Int) → List (List aV)
  | [] => [[]]
  | c :: cs => (aIvs (-2147483648) c).flatMap (fun a => (aGrid cs).map (fun b => a :: b))
theorem aGrid_r : ∀ {cs : List (List Int)} {xs : List Int32}, xs.length = cs.length → ∃ b ∈ aGrid cs, aSR b (xs.map .int)
  | [], [], _ => ⟨[], List.mem_cons_self, trivial⟩
  | [], _ :: _, h => by cases h
  | _ :: _, [], h => by cases h
  | c :: cs, x :: xs, h => by
    obtain ⟨b, h1, h2⟩ := aGrid_r (cs := cs) (xs := xs) (by simpa using h)
    obtain ⟨a, h3, h4⟩ := aIvs_r (x := x) (cs := c) (lo := -2147483648) (by have := Int32.le_toInt x; omega)
    exact ⟨a :: b, List.mem_flatMap.mpr ⟨a, h3, List.mem_map.mpr ⟨b, h1, rfl⟩⟩, h4, h2⟩
/-- the state before the number of the call is known, and behind it -/
def aTop (op : Nat) (s : aSt) : aSt := match s with
  | (F, d, k, pc, ls, st, hp, C, S) => (F, d, k, 40, ls, [.inl (.int (Int32.ofNat op))], hp, C, S)
def aAt39 (s : aSt) : Bool := match s with
  | (F, d, k, pc, ls, st, hp, C, S) => F.isEmpty && Nat.beq k mjLaw && Nat.beq pc 39 && (match st with | [.inl (.int z), w] => decide (z = 63) && Nat.beq (aK w) 0 | _ => false)
noncomputable def aOp (n op : Nat) (cuts : List (List Int)) (s : aSt) : Bool := (aGrid ([] :: cuts)).all (fun b => aGo (some b) n (aTop op s))
abbrev aAny6 : List aV := [aAnyI, aAnyI, aAnyI, aAnyI, aAnyI, aAnyI]
noncomputable def aPre (P : aSt → Bool) : Bool := match aSeg none 49200 aS0 with
  | none => false
  | some s1 => P s1
noncomputable def aPre2 (P : aSt → Bool) : Bool := aPre (fun s1 => match aSeg (some aAny6) 8 s1 with
  | none => false
  | some s2 => aAt39 s2 && P s2)
noncomputable def aOps (n : Nat) (ops : List (Nat × List (List Int))) (s : aSt) : Bool := ops.all (fun q => aOp n q.1 q.2 s)
end AJBOX

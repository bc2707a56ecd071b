/-! PC: behind a call that ended bad -/
section PCKK
variable {m : Nat} {L : mjL} {S : List Value} {H H' H2 : mjH} {r r2 : Option Value ⊕ Nat}
/-- what a call gives back: of this kind, or it throws -/
def rOk (cs : List frV) (r : Option Value ⊕ Nat) : Prop := (∃ E, r = .inr E) ∨ ∃ v, r = .inl v ∧ frSR cs v.toList
theorem rOk_lg (h : lgO r) : rOk [.inr true] r := by
  rcases h with ⟨v, h⟩ | h
  · exact Or.inr ⟨_, h, ⟨_, rfl⟩, trivial⟩
  · exact Or.inl h
theorem rOk_i {z : Int32} (h : r = .inl (some (.int z))) : rOk [.inr false] r := Or.inr ⟨_, h, ⟨_, rfl⟩, trivial⟩
theorem rOk_v (h : r = .inl none) : rOk [] r := Or.inr ⟨_, h, trivial⟩
theorem cBadK {M : frMt} {pc : Nat} {ls : List (Nat × frV)} {cs sS : List frV} (hM : M ∈ cMs) (hs0 : cSp M = false) (h0 : M.2.2.2.2.2.2 = []) (hret : M.2.2.2.1 = some (.inr true)) (hw : frWk cMs M 400 (pc, (ls, cs ++ sS)) = true) (hL : frLR ls L) (hS : frSR sS S) (hT : HT H2) (hb : cBad H2) (hr : rOk cs r2) (k : (∃ v, r2 = .inl v ∧ Pn none m M.1 pc L (v.toList ++ S) H2 r H') ∨ (∃ E, r2 = .inr E ∧ r = .inr E ∧ H' = H2)) : HT H' ∧ cBad H' ∧ lgO r := by
  rcases k with ⟨u, e, k⟩ | ⟨E, e, k1, k2⟩
  · rcases hr with ⟨E, h⟩ | ⟨v, h, hv⟩
    · rw [e] at h
      cases h
    · rw [e] at h
      cases h
      obtain ⟨ed, eb⟩ := cKeepAt (s := (ls, cs ++ sS)) hM hs0 h0 hw hL (frSR_app hv hS) hT hb k
      exact ⟨ed.1, eb, lgO_of ed hret⟩
  · rw [k2]
    exact ⟨hT, hb, Or.inr ⟨E, k1⟩⟩
theorem rBadK {M : frMt} {pc : Nat} {ls : List (Nat × frV)} {cs sS : List frV} (hM : M ∈ rMs) (hs0 : rSp M = false) (h0 : M.2.2.2.2.2.2 = []) (hret : M.2.2.2.1 = some (.inr true)) (hw : frWk rMs M 400 (pc, (ls, cs ++ sS)) = true) (hL : frLR ls L) (hS : frSR sS S) (hT : HT H2) (hb : rBad H2) (hr : rOk cs r2) (k : (∃ v, r2 = .inl v ∧ Pn none m M.1 pc L (v.toList ++ S) H2 r H') ∨ (∃ E, r2 = .inr E ∧ r = .inr E ∧ H' = H2)) : HT H' ∧ rBad H' ∧ lgO r := by
  rcases k with ⟨u, e, k⟩ | ⟨E, e, k1, k2⟩
  · rcases hr with ⟨E, h⟩ | ⟨v, h, hv⟩
    · rw [e] at h
      cases h
    · rw [e] at h
      cases h
      obtain ⟨ed, eb⟩ := rKeepAt (s := (ls, cs ++ sS)) hM hs0 h0 hw hL (frSR_app hv hS) hT hb k
      exact ⟨ed.1, eb, lgO_of ed hret⟩
  · rw [k2]
    exact ⟨hT, hb, Or.inr ⟨E, k1⟩⟩
theorem fl1 {J : Nat} (hJ : J = 3 ∨ J = 11) (h : mjGet L 0 = some (.ref 1) ∧ mjGet L 1 = some (.ref J)) : frLR [(0, .inl [1]), (1, .inl [3, 11])] L := frLR_c h.1 ⟨1, List.mem_singleton.mpr rfl, rfl⟩ (frLR_c h.2 ⟨J, by simpa using hJ, rfl⟩ frLR_n)
theorem fl0 (h : mjGet L 0 = some (.ref 1)) : frLR [(0, .inl [1])] L := frLR_c h ⟨1, List.mem_singleton.mpr rfl, rfl⟩ frLR_n
theorem fr0 (h : mjGet L 0 = some (.ref 78)) : frLR [(0, .inl [78])] L := frLR_c h ⟨78, List.mem_singleton.mpr rfl, rfl⟩ frLR_n
theorem shuts {o : Nat} (hT : HT H) (ho : gI H 1 7 = Int32.ofInt ((o + 1 : Nat) : Int)) (h : Pn none m 94 0 [(0, .ref 1)] [] H r H') : r = .inl none ∧ HT H' ∧ (∀ a b, ¬ (a = 1 ∧ b = 7) → sxEl H' a b = sxEl H a b) ∧ gI H' 1 7 = Int32.ofInt (o : Int) := by
  obtain ⟨e1, e2⟩ := x_shut hT ⟨rfl, trivial⟩ h
  rw [e2]
  refine ⟨e1, HT.pFI hT kF_1_7_6_false, fun a b z => sxEl_ne z, ?_⟩
  rw [gI_fat hT kF_1_7_6_false, ho, zz_sub]
  exact congrArg Int32.ofInt (by omega)
end PCKK

/-! PC: sentences in step: what holds on both sides -/
section PCSD
variable {m : Nat} {L : mjL} {H H' H0 H1 : mjH} {r : Option Value ⊕ Nat} {tx : Nat → Nat} {n s : Nat}
def cGd (H : mjH) (J A : Nat) (al : Int64) (tx : Nat → Nat) (n s o : Nat) : Prop := HT H ∧ tcC H tx n ∧ cAt H tx n s ∧ gI H 1 7 = Int32.ofInt (o : Int) ∧ gI H J 0 = Int32.ofInt (A : Int) ∧ gL H J 1 = al
def rGd (H : mjH) (A : Nat) (tx : Nat → Nat) (n s o : Nat) : Prop := HT H ∧ rAt H tx n s ∧ gI H 78 5 = Int32.ofInt 0 ∧ gI H 78 8 = Int32.ofInt (o : Int) ∧ gI H 81 0 = Int32.ofInt (A : Int)
/-- how two that read end: both bad, or both good with the same -/
def sOut (J A : Nat) (al : Int64) (tx : Nat → Nat) (n s o : Nat) (rc : Option Value ⊕ Nat) (Hc' : mjH) (rr : Option Value ⊕ Nat) (Hr' : mjH) : Prop := ((HT Hc' ∧ cBad Hc' ∧ lgO rc) ∧ HT Hr' ∧ rBad Hr' ∧ lgO rr) ∨ ∃ (s' : Nat) (v : Int64), s ≤ s' ∧ rc = .inl (some (.long v)) ∧ rr = .inl (some (.long v)) ∧ cGd Hc' J A al tx n s' o ∧ rGd Hr' A tx n s' o
def sP (k g J A : Nat) (al : Int64) (tx : Nat → Nat) (n m : Nat) : Prop := ∀ (mr s o : Nat) (Hc Hr : mjH) (rc : Option Value ⊕ Nat) (Hc' : mjH) (rr : Option Value ⊕ Nat) (Hr' : mjH), o ≤ 6 → cGd Hc J A al tx n s o → rGd Hr A tx n s o → Pn none m k 0 [(0, .ref 1), (1, .ref J)] [] Hc rc Hc' → Pn none mr g 0 [(0, .ref 78)] [] Hr rr Hr' → sOut J A al tx n s o rc Hc' rr Hr'
theorem ztWd_end {ws : List Nat} (h : ztWd tx n s ws) (h0 : 0 < ws.length) : ztEnd tx n s (s + ws.length) := by
  have h1 := h.1.2.1 s (Nat.le_refl _) (by omega)
  have hlt : s < n := by
    rcases Nat.lt_or_ge s n with z | z
    · exact z
    · rw [ztB_ge z] at h1
      exact absurd h1.1 (by decide)
  rw [ztB_lt hlt] at h1
  exact ⟨1, tx s, Or.inr (Or.inl ⟨hlt, h1, rfl, rfl, h.1⟩)⟩
theorem wOk_of {ws : List Nat} (h : (Nat.blt 0 ws.length && (Nat.ble ws.length 6 && ws.all (fun x => Nat.ble 97 x && Nat.ble x 122))) = true) : wOk ws := by
  simp only [Bool.and_eq_true] at h
  refine ⟨bltOk h.1, Nat.le_of_ble_eq_true h.2.1, fun x hx => ?_⟩
  have h1 := List.all_eq_true.mp h.2.2 x hx
  rw [Bool.and_eq_true] at h1
  have h2 := Nat.le_of_ble_eq_true h1.1
  have h3 := Nat.le_of_ble_eq_true h1.2
  exact ⟨by omega, by omega⟩
theorem py_takes {ws : List Nat} {a b c d e f : Int} (hT : HT H) (ha : rAt H tx n s) (h5 : gI H 78 5 = Int32.ofInt 0) (hw : wOk ws) (hr : (0 ≤ c ∧ c < 27) ∧ (0 ≤ d ∧ d < 27) ∧ (0 ≤ e ∧ e < 27) ∧ (0 ≤ f ∧ f < 27)) (h6 : sixF a b c d e f = wdC ws) (h7 : 0 ≤ wdC ws ∧ wdC ws < 387420489) (h : Pn none m 210 0 [(0, .ref 78), (1, .int (Int32.ofInt a)), (2, .int (Int32.ofInt b)), (3, .int (Int32.ofInt c)), (4, .int (Int32.ofInt d)), (5, .int (Int32.ofInt e)), (6, .int (Int32.ofInt f))] [] H r H') :
    HT H' ∧ rFr H H' ∧ ((ztWd tx n s ws ∧ r = .inl (some (.int (Int32.ofInt 1))) ∧ ∃ s', ztRun ztBl tx n (s + ws.length) s' ∧ rAt H' tx n s') ∨ (¬ ztWd tx n s ws ∧ r = .inl (some (.int (Int32.ofInt 0))) ∧ rAt H' tx n s)) := by
  obtain ⟨L1, hL1, r2, H2, q, k⟩ := y_tk0 hT ⟨rfl, rfl, rfl, rfl, rfl, rfl, rfl, trivial⟩ h
  obtain ⟨d1, d2, d3, d4, d5⟩ := py_isw hT ha h5 hw hr h6 h7 q
  rcases d1 with ⟨g, d1⟩ | ⟨g, d1⟩
  · subst d1
    have hb := y_tk1 d2 hL1 (pn_ret k)
    rcases hb with ⟨z, -⟩ | ⟨-, L2, hL2, r3, H3, q3, k3⟩
    · exact absurd z (by decide)
    obtain ⟨e', f1, f2, f3, f4, f5, f6⟩ := py_skip d2 d5 d4 ha.le q3
    subst f3
    obtain ⟨g1, g2⟩ := y_tk2 f4 hL2 (pn_ret k3)
    have he := ztRun_un f1 g.1
    rw [he] at f6 f2
    obtain ⟨s', z1, z2⟩ := rAt_of (tx := tx) (n := n) (f5.tk d5) f6 f2
    rw [g2]
    exact ⟨f4, d3.tr f5, Or.inl ⟨g, g1, s', z1, z2⟩⟩
  · subst d1
    have hb := y_tk1 d2 hL1 (pn_ret k)
    rcases hb with ⟨-, e1, e2⟩ | ⟨z, -⟩
    · rw [e2]
      exact ⟨d2, d3, Or.inr ⟨g, e1, rAt_at d5 d4 ha.le ha.nb⟩⟩
    · exact absurd rfl z
theorem tx_or : mjTxo 1000006 = some [111, 114] := by decide +kernel
theorem tx_and : mjTxo 1000005 = some [97, 110, 100] := by decide +kernel
theorem tx_not : mjTxo 1000002 = some [110, 111, 116] := by decide +kernel
theorem tx_if : mjTxo 1000003 = some [105, 102] := by decide +kernel
theorem tx_then : mjTxo 1000004 = some [116, 104, 101, 110] := by decide +kernel
end PCSD

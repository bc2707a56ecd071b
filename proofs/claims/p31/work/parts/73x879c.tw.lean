/-! PC: the TONGUE in step: words -/
section PCTW
variable {m : Nat} {L : mjL} {S : List Value} {H H' H2 : mjH} {r r2 : Option Value ⊕ Nat} {tx : Nat → Nat} {n s o k0 pc0 Q : Nat} {cs : List Int} {rs : List (Int × Int)}
theorem tw_both : mjTxo 1000012 = some [98, 111, 116, 104] := by decide +kernel
theorem tw_new : mjTxo 1000013 = some [110, 101, 119] := by decide +kernel
theorem tw_old : mjTxo 1000014 = some [111, 108, 100] := by decide +kernel
theorem tw_not : mjTxo 1000015 = some [110, 111, 116] := by decide +kernel
theorem tw_and : mjTxo 1000026 = some [97, 110, 100] := by decide +kernel
theorem tw_or : mjTxo 1000027 = some [111, 114] := by decide +kernel
theorem tw_age : mjTxo 1000016 = some [97, 103, 101] := by decide +kernel
theorem tw_hurts : mjTxo 1000017 = some [104, 117, 114, 116, 115] := by decide +kernel
theorem tw_olds : mjTxo 1000018 = some [111, 108, 100, 115] := by decide +kernel
theorem tw_news : mjTxo 1000019 = some [110, 101, 119, 115] := by decide +kernel
theorem tw_oldn : mjTxo 1000020 = some [111, 108, 100, 110] := by decide +kernel
theorem tw_newn : mjTxo 1000021 = some [110, 101, 119, 110] := by decide +kernel
theorem tw_week : mjTxo 1000022 = some [119, 101, 101, 107] := by decide +kernel
theorem tw_held : mjTxo 1000023 = some [104, 101, 108, 100] := by decide +kernel
theorem tw_left : mjTxo 1000024 = some [108, 101, 102, 116] := by decide +kernel
theorem tw_shared : mjTxo 1000025 = some [115, 104, 97, 114, 101, 100] := by decide +kernel
/-- the first of these words that stands there -/
def fW (tx : Nat → Nat) (n s : Nat) (wl : List (List Nat)) (j : Nat) : Prop := (∀ (i : Nat) (w : List Nat), i < j → wl[i]? = some w → ¬ ztWd tx n s w) ∧ ∀ w, wl[j]? = some w → ztWd tx n s w
theorem fW_un {wl : List (List Nat)} {i j : Nat} (hi : fW tx n s wl i) (hj : fW tx n s wl j) (hil : i ≤ wl.length) (hjl : j ≤ wl.length) : i = j := by
  rcases Nat.lt_trichotomy i j with g | g | g
  · exact absurd (hi.2 _ (List.getElem?_eq_getElem (by omega))) (hj.1 i _ g (List.getElem?_eq_getElem (by omega)))
  · exact g
  · exact absurd (hj.2 _ (List.getElem?_eq_getElem (by omega))) (hi.1 j _ g (List.getElem?_eq_getElem (by omega)))
def qWs : List (List Nat) := [[97, 103, 101], [104, 117, 114, 116, 115], [111, 108, 100, 115], [110, 101, 119, 115], [111, 108, 100, 110], [110, 101, 119, 110], [119, 101, 101, 107], [104, 101, 108, 100], [108, 101, 102, 116], [115, 104, 97, 114, 101, 100]]
def wWs : List (List Nat) := [[98, 111, 116, 104], [110, 101, 119], [111, 108, 100]]
theorem cG_qty (h : cG H Q cs tx n s o) (q : Pn none m 111 0 [(0, .ref 1)] [] H r H') : ∃ j, j ≤ 10 ∧ fW tx n s qWs j ∧ r = .inl (some (.int (Int32.ofInt (if j < 10 then (j : Int) else -1)))) ∧ H' = H := by
  obtain ⟨L0, hL0, r0, H0, q0, k0⟩ := g_q0 h.1.1 ⟨rfl, trivial⟩ q
  rcases cG_isw h tw_age (wOk_of rfl) q0 k0 with ⟨g, q⟩ | ⟨n0, q⟩
  · obtain ⟨e1, e2⟩ := ((g_q1 h.1.1 hL0 q).resolve_left (fun z => absurd z.1 (by decide))).2
    exact ⟨0, by decide, ⟨fun i w hi _ => absurd hi (Nat.not_lt_zero i), fun w hw => (by
    cases hw
    exact g)⟩, e1, e2⟩
  obtain ⟨-, L1, hL1, r1, H1, q1, k1⟩ := (g_q1 h.1.1 hL0 q).resolve_right (fun z => z.1 rfl)
  rcases cG_isw h tw_hurts (wOk_of rfl) q1 k1 with ⟨g, q⟩ | ⟨n1, q⟩
  · obtain ⟨e1, e2⟩ := ((g_q2 h.1.1 hL1 q).resolve_left (fun z => absurd z.1 (by decide))).2
    exact ⟨1, by decide, ⟨fun i w hi hw => (by
    have hc : i = 0 := by omega
    rcases hc with rfl
    · cases hw
      exact n0), fun w hw => (by
    cases hw
    exact g)⟩, e1, e2⟩
  obtain ⟨-, L2, hL2, r2, H2, q2, k2⟩ := (g_q2 h.1.1 hL1 q).resolve_right (fun z => z.1 rfl)
  rcases cG_isw h tw_olds (wOk_of rfl) q2 k2 with ⟨g, q⟩ | ⟨n2, q⟩
  · obtain ⟨e1, e2⟩ := ((g_q3 h.1.1 hL2 q).resolve_left (fun z => absurd z.1 (by decide))).2
    exact ⟨2, by decide, ⟨fun i w hi hw => (by
    have hc : i = 0 ∨ i = 1 := by omega
    rcases hc with rfl | rfl
    · cases hw
      exact n0
    · cases hw
      exact n1), fun w hw => (by
    cases hw
    exact g)⟩, e1, e2⟩
  obtain ⟨-, L3, hL3, r3, H3, q3, k3⟩ := (g_q3 h.1.1 hL2 q).resolve_right (fun z => z.1 rfl)
  rcases cG_isw h tw_news (wOk_of rfl) q3 k3 with ⟨g, q⟩ | ⟨n3, q⟩
  · obtain ⟨e1, e2⟩ := ((g_q4 h.1.1 hL3 q).resolve_left (fun z => absurd z.1 (by decide))).2
    exact ⟨3, by decide, ⟨fun i w hi hw => (by
    have hc : i = 0 ∨ i = 1 ∨ i = 2 := by omega
    rcases hc with rfl | rfl | rfl
    · cases hw
      exact n0
    · cases hw
      exact n1
    · cases hw
      exact n2), fun w hw => (by
    cases hw
    exact g)⟩, e1, e2⟩
  obtain ⟨-, L4, hL4, r4, H4, q4, k4⟩ := (g_q4 h.1.1 hL3 q).resolve_right (fun z => z.1 rfl)
  rcases cG_isw h tw_oldn (wOk_of rfl) q4 k4 with ⟨g, q⟩ | ⟨n4, q⟩
  · obtain ⟨e1, e2⟩ := ((g_q5 h.1.1 hL4 q).resolve_left (fun z => absurd z.1 (by decide))).2
    exact ⟨4, by decide, ⟨fun i w hi hw => (by
    have hc : i = 0 ∨ i = 1 ∨ i = 2 ∨ i = 3 := by omega
    rcases hc with rfl | rfl | rfl | rfl
    · cases hw
      exact n0
    · cases hw
      exact n1
    · cases hw
      exact n2
    · cases hw
      exact n3), fun w hw => (by
    cases hw
    exact g)⟩, e1, e2⟩
  obtain ⟨-, L5, hL5, r5, H5, q5, k5⟩ := (g_q5 h.1.1 hL4 q).resolve_right (fun z => z.1 rfl)
  rcases cG_isw h tw_newn (wOk_of rfl) q5 k5 with ⟨g, q⟩ | ⟨n5, q⟩
  · obtain ⟨e1, e2⟩ := ((g_q6 h.1.1 hL5 q).resolve_left (fun z => absurd z.1 (by decide))).2
    exact ⟨5, by decide, ⟨fun i w hi hw => (by
    have hc : i = 0 ∨ i = 1 ∨ i = 2 ∨ i = 3 ∨ i = 4 := by omega
    rcases hc with rfl | rfl | rfl | rfl | rfl
    · cases hw
      exact n0
    · cases hw
      exact n1
    · cases hw
      exact n2
    · cases hw
      exact n3
    · cases hw
      exact n4), fun w hw => (by
    cases hw
    exact g)⟩, e1, e2⟩
  obtain ⟨-, L6, hL6, r6, H6, q6, k6⟩ := (g_q6 h.1.1 hL5 q).resolve_right (fun z => z.1 rfl)
  rcases cG_isw h tw_week (wOk_of rfl) q6 k6 with ⟨g, q⟩ | ⟨n6, q⟩
  · obtain ⟨e1, e2⟩ := ((g_q7 h.1.1 hL6 q).resolve_left (fun z => absurd z.1 (by decide))).2
    exact ⟨6, by decide, ⟨fun i w hi hw => (by
    have hc : i = 0 ∨ i = 1 ∨ i = 2 ∨ i = 3 ∨ i = 4 ∨ i = 5 := by omega
    rcases hc with rfl | rfl | rfl | rfl | rfl | rfl
    · cases hw
      exact n0
    · cases hw
      exact n1
    · cases hw
      exact n2
    · cases hw
      exact n3
    · cases hw
      exact n4
    · cases hw
      exact n5), fun w hw => (by
    cases hw
    exact g)⟩, e1, e2⟩
  obtain ⟨-, L7, hL7, r7, H7, q7, k7⟩ := (g_q7 h.1.1 hL6 q).resolve_right (fun z => z.1 rfl)
  rcases cG_isw h tw_held (wOk_of rfl) q7 k7 with ⟨g, q⟩ | ⟨n7, q⟩
  · obtain ⟨e1, e2⟩ := ((g_q8 h.1.1 hL7 q).resolve_left (fun z => absurd z.1 (by decide))).2
    exact ⟨7, by decide, ⟨fun i w hi hw => (by
    have hc : i = 0 ∨ i = 1 ∨ i = 2 ∨ i = 3 ∨ i = 4 ∨ i = 5 ∨ i = 6 := by omega
    rcases hc with rfl | rfl | rfl | rfl | rfl | rfl | rfl
    · cases hw
      exact n0
    · cases hw
      exact n1
    · cases hw
      exact n2
    · cases hw
      exact n3
    · cases hw
      exact n4
    · cases hw
      exact n5
    · cases hw
      exact n6), fun w hw => (by
    cases hw
    exact g)⟩, e1, e2⟩
  obtain ⟨-, L8, hL8, r8, H8, q8, k8⟩ := (g_q8 h.1.1 hL7 q).resolve_right (fun z => z.1 rfl)
  rcases cG_isw h tw_left (wOk_of rfl) q8 k8 with ⟨g, q⟩ | ⟨n8, q⟩
  · obtain ⟨e1, e2⟩ := ((g_q9 h.1.1 hL8 q).resolve_left (fun z => absurd z.1 (by decide))).2
    exact ⟨8, by decide, ⟨fun i w hi hw => (by
    have hc : i = 0 ∨ i = 1 ∨ i = 2 ∨ i = 3 ∨ i = 4 ∨ i = 5 ∨ i = 6 ∨ i = 7 := by omega
    rcases hc with rfl | rfl | rfl | rfl | rfl | rfl | rfl | rfl
    · cases hw
      exact n0
    · cases hw
      exact n1
    · cases hw
      exact n2
    · cases hw
      exact n3
    · cases hw
      exact n4
    · cases hw
      exact n5
    · cases hw
      exact n6
    · cases hw
      exact n7), fun w hw => (by
    cases hw
    exact g)⟩, e1, e2⟩
  obtain ⟨-, L9, hL9, r9, H9, q9, k9⟩ := (g_q9 h.1.1 hL8 q).resolve_right (fun z => z.1 rfl)
  rcases cG_isw h tw_shared (wOk_of rfl) q9 k9 with ⟨g, q⟩ | ⟨n9, q⟩
  · obtain ⟨e1, e2⟩ := ((g_q10 h.1.1 hL9 q).resolve_left (fun z => absurd z.1 (by decide))).2
    exact ⟨9, by decide, ⟨fun i w hi hw => (by
    have hc : i = 0 ∨ i = 1 ∨ i = 2 ∨ i = 3 ∨ i = 4 ∨ i = 5 ∨ i = 6 ∨ i = 7 ∨ i = 8 := by omega
    rcases hc with rfl | rfl | rfl | rfl | rfl | rfl | rfl | rfl | rfl
    · cases hw
      exact n0
    · cases hw
      exact n1
    · cases hw
      exact n2
    · cases hw
      exact n3
    · cases hw
      exact n4
    · cases hw
      exact n5
    · cases hw
      exact n6
    · cases hw
      exact n7
    · cases hw
      exact n8), fun w hw => (by
    cases hw
    exact g)⟩, e1, e2⟩
  obtain ⟨e1, e2⟩ := ((g_q10 h.1.1 hL9 q).resolve_right (fun z => z.1 rfl)).2
  exact ⟨10, by decide, ⟨fun i w hi hw => (by
    have hc : i = 0 ∨ i = 1 ∨ i = 2 ∨ i = 3 ∨ i = 4 ∨ i = 5 ∨ i = 6 ∨ i = 7 ∨ i = 8 ∨ i = 9 := by omega
    rcases hc with rfl | rfl | rfl | rfl | rfl | rfl | rfl | rfl | rfl | rfl
    · cases hw
      exact n0
    · cases hw
      exact n1
    · cases hw
      exact n2
    · cases hw
      exact n3
    · cases hw
      exact n4
    · cases hw
      exact n5
    · cases hw
      exact n6
    · cases hw
      exact n7
    · cases hw
      exact n8
    · cases hw
      exact n9), fun w hw => (by cases hw)⟩, e1, e2⟩
theorem cG_who (h : cG H Q cs tx n s o) (q : Pn none m 103 0 [(0, .ref 1)] [] H r H') : ∃ j, j ≤ 3 ∧ fW tx n s wWs j ∧ r = .inl (some (.int (Int32.ofInt (if j < 3 then (j : Int) else -1)))) ∧ H' = H := by
  obtain ⟨L0, hL0, r0, H0, q0, k0⟩ := g_w0 h.1.1 ⟨rfl, trivial⟩ q
  rcases cG_isw h tw_both (wOk_of rfl) q0 k0 with ⟨g, q⟩ | ⟨n0, q⟩
  · obtain ⟨e1, e2⟩ := ((g_w1 h.1.1 hL0 q).resolve_left (fun z => absurd z.1 (by decide))).2
    exact ⟨0, by decide, ⟨fun i w hi _ => absurd hi (Nat.not_lt_zero i), fun w hw => (by
    cases hw
    exact g)⟩, e1, e2⟩
  obtain ⟨-, L1, hL1, r1, H1, q1, k1⟩ := (g_w1 h.1.1 hL0 q).resolve_right (fun z => z.1 rfl)
  rcases cG_isw h tw_new (wOk_of rfl) q1 k1 with ⟨g, q⟩ | ⟨n1, q⟩
  · obtain ⟨e1, e2⟩ := ((g_w2 h.1.1 hL1 q).resolve_left (fun z => absurd z.1 (by decide))).2
    exact ⟨1, by decide, ⟨fun i w hi hw => (by
    have hc : i = 0 := by omega
    rcases hc with rfl
    · cases hw
      exact n0), fun w hw => (by
    cases hw
    exact g)⟩, e1, e2⟩
  obtain ⟨-, L2, hL2, r2, H2, q2, k2⟩ := (g_w2 h.1.1 hL1 q).resolve_right (fun z => z.1 rfl)
  rcases cG_isw h tw_old (wOk_of rfl) q2 k2 with ⟨g, q⟩ | ⟨n2, q⟩
  · obtain ⟨e1, e2⟩ := ((g_w3 h.1.1 hL2 q).resolve_left (fun z => absurd z.1 (by decide))).2
    exact ⟨2, by decide, ⟨fun i w hi hw => (by
    have hc : i = 0 ∨ i = 1 := by omega
    rcases hc with rfl | rfl
    · cases hw
      exact n0
    · cases hw
      exact n1), fun w hw => (by
    cases hw
    exact g)⟩, e1, e2⟩
  obtain ⟨e1, e2⟩ := ((g_w3 h.1.1 hL2 q).resolve_right (fun z => z.1 rfl)).2
  exact ⟨3, by decide, ⟨fun i w hi hw => (by
    have hc : i = 0 ∨ i = 1 ∨ i = 2 := by omega
    rcases hc with rfl | rfl | rfl
    · cases hw
      exact n0
    · cases hw
      exact n1
    · cases hw
      exact n2), fun w hw => (by cases hw)⟩, e1, e2⟩
theorem rG_kn (h : rG H rs tx n s o) (q : Pn none m 233 0 [(0, .ref 78)] [] H r H') : ∃ j, j ≤ 10 ∧ fW tx n s qWs j ∧ r = .inl (some (.int (Int32.ofInt (if j < 10 then (j : Int) else -1)))) ∧ ((j = 10 ∧ rG H' rs tx n s o) ∨ ∃ w s', qWs[j]? = some w ∧ ztWd tx n s w ∧ ztRun ztBl tx n (s + w.length) s' ∧ rG H' rs tx n s' o) := by
  obtain ⟨L0, hL0, r0, H0, q0, k0⟩ := h_k0 h.1 ⟨rfl, trivial⟩ q
  rcases rG_tk (ws := [97, 103, 101]) h (wOk_of rfl) (by decide) (by decide) (by decide) q0 k0 with ⟨g, s1, z1, rg, q⟩ | ⟨n0, h, q⟩
  · obtain ⟨e1, e2⟩ := ((h_k1 rg.1 hL0 q).resolve_left (fun z => absurd z.1 (by decide))).2
    rw [← e2] at rg
    exact ⟨0, by decide, ⟨fun i w hi _ => absurd hi (Nat.not_lt_zero i), fun w hw => (by
    cases hw
    exact g)⟩, e1, Or.inr ⟨_, s1, rfl, g, z1, rg⟩⟩
  obtain ⟨-, L1, hL1, r1, H1, q1, k1⟩ := (h_k1 h.1 hL0 q).resolve_right (fun z => z.1 rfl)
  rcases rG_tk (ws := [104, 117, 114, 116, 115]) h (wOk_of rfl) (by decide) (by decide) (by decide) q1 k1 with ⟨g, s1, z1, rg, q⟩ | ⟨n1, h, q⟩
  · obtain ⟨e1, e2⟩ := ((h_k2 rg.1 hL1 q).resolve_left (fun z => absurd z.1 (by decide))).2
    rw [← e2] at rg
    exact ⟨1, by decide, ⟨fun i w hi hw => (by
    have hc : i = 0 := by omega
    rcases hc with rfl
    · cases hw
      exact n0), fun w hw => (by
    cases hw
    exact g)⟩, e1, Or.inr ⟨_, s1, rfl, g, z1, rg⟩⟩
  obtain ⟨-, L2, hL2, r2, H2, q2, k2⟩ := (h_k2 h.1 hL1 q).resolve_right (fun z => z.1 rfl)
  rcases rG_tk (ws := [111, 108, 100, 115]) h (wOk_of rfl) (by decide) (by decide) (by decide) q2 k2 with ⟨g, s1, z1, rg, q⟩ | ⟨n2, h, q⟩
  · obtain ⟨e1, e2⟩ := ((h_k3 rg.1 hL2 q).resolve_left (fun z => absurd z.1 (by decide))).2
    rw [← e2] at rg
    exact ⟨2, by decide, ⟨fun i w hi hw => (by
    have hc : i = 0 ∨ i = 1 := by omega
    rcases hc with rfl | rfl
    · cases hw
      exact n0
    · cases hw
      exact n1), fun w hw => (by
    cases hw
    exact g)⟩, e1, Or.inr ⟨_, s1, rfl, g, z1, rg⟩⟩
  obtain ⟨-, L3, hL3, r3, H3, q3, k3⟩ := (h_k3 h.1 hL2 q).resolve_right (fun z => z.1 rfl)
  rcases rG_tk (ws := [110, 101, 119, 115]) h (wOk_of rfl) (by decide) (by decide) (by decide) q3 k3 with ⟨g, s1, z1, rg, q⟩ | ⟨n3, h, q⟩
  · obtain ⟨e1, e2⟩ := ((h_k4 rg.1 hL3 q).resolve_left (fun z => absurd z.1 (by decide))).2
    rw [← e2] at rg
    exact ⟨3, by decide, ⟨fun i w hi hw => (by
    have hc : i = 0 ∨ i = 1 ∨ i = 2 := by omega
    rcases hc with rfl | rfl | rfl
    · cases hw
      exact n0
    · cases hw
      exact n1
    · cases hw
      exact n2), fun w hw => (by
    cases hw
    exact g)⟩, e1, Or.inr ⟨_, s1, rfl, g, z1, rg⟩⟩
  obtain ⟨-, L4, hL4, r4, H4, q4, k4⟩ := (h_k4 h.1 hL3 q).resolve_right (fun z => z.1 rfl)
  rcases rG_tk (ws := [111, 108, 100, 110]) h (wOk_of rfl) (by decide) (by decide) (by decide) q4 k4 with ⟨g, s1, z1, rg, q⟩ | ⟨n4, h, q⟩
  · obtain ⟨e1, e2⟩ := ((h_k5 rg.1 hL4 q).resolve_left (fun z => absurd z.1 (by decide))).2
    rw [← e2] at rg
    exact ⟨4, by decide, ⟨fun i w hi hw => (by
    have hc : i = 0 ∨ i = 1 ∨ i = 2 ∨ i = 3 := by omega
    rcases hc with rfl | rfl | rfl | rfl
    · cases hw
      exact n0
    · cases hw
      exact n1
    · cases hw
      exact n2
    · cases hw
      exact n3), fun w hw => (by
    cases hw
    exact g)⟩, e1, Or.inr ⟨_, s1, rfl, g, z1, rg⟩⟩
  obtain ⟨-, L5, hL5, r5, H5, q5, k5⟩ := (h_k5 h.1 hL4 q).resolve_right (fun z => z.1 rfl)
  rcases rG_tk (ws := [110, 101, 119, 110]) h (wOk_of rfl) (by decide) (by decide) (by decide) q5 k5 with ⟨g, s1, z1, rg, q⟩ | ⟨n5, h, q⟩
  · obtain ⟨e1, e2⟩ := ((h_k6 rg.1 hL5 q).resolve_left (fun z => absurd z.1 (by decide))).2
    rw [← e2] at rg
    exact ⟨5, by decide, ⟨fun i w hi hw => (by
    have hc : i = 0 ∨ i = 1 ∨ i = 2 ∨ i = 3 ∨ i = 4 := by omega
    rcases hc with rfl | rfl | rfl | rfl | rfl
    · cases hw
      exact n0
    · cases hw
      exact n1
    · cases hw
      exact n2
    · cases hw
      exact n3
    · cases hw
      exact n4), fun w hw => (by
    cases hw
    exact g)⟩, e1, Or.inr ⟨_, s1, rfl, g, z1, rg⟩⟩
  obtain ⟨-, L6, hL6, r6, H6, q6, k6⟩ := (h_k6 h.1 hL5 q).resolve_right (fun z => z.1 rfl)
  rcases rG_tk (ws := [119, 101, 101, 107]) h (wOk_of rfl) (by decide) (by decide) (by decide) q6 k6 with ⟨g, s1, z1, rg, q⟩ | ⟨n6, h, q⟩
  · obtain ⟨e1, e2⟩ := ((h_k7 rg.1 hL6 q).resolve_left (fun z => absurd z.1 (by decide))).2
    rw [← e2] at rg
    exact ⟨6, by decide, ⟨fun i w hi hw => (by
    have hc : i = 0 ∨ i = 1 ∨ i = 2 ∨ i = 3 ∨ i = 4 ∨ i = 5 := by omega
    rcases hc with rfl | rfl | rfl | rfl | rfl | rfl
    · cases hw
      exact n0
    · cases hw
      exact n1
    · cases hw
      exact n2
    · cases hw
      exact n3
    · cases hw
      exact n4
    · cases hw
      exact n5), fun w hw => (by
    cases hw
    exact g)⟩, e1, Or.inr ⟨_, s1, rfl, g, z1, rg⟩⟩
  obtain ⟨-, L7, hL7, r7, H7, q7, k7⟩ := (h_k7 h.1 hL6 q).resolve_right (fun z => z.1 rfl)
  rcases rG_tk (ws := [104, 101, 108, 100]) h (wOk_of rfl) (by decide) (by decide) (by decide) q7 k7 with ⟨g, s1, z1, rg, q⟩ | ⟨n7, h, q⟩
  · obtain ⟨e1, e2⟩ := ((h_k8 rg.1 hL7 q).resolve_left (fun z => absurd z.1 (by decide))).2
    rw [← e2] at rg
    exact ⟨7, by decide, ⟨fun i w hi hw => (by
    have hc : i = 0 ∨ i = 1 ∨ i = 2 ∨ i = 3 ∨ i = 4 ∨ i = 5 ∨ i = 6 := by omega
    rcases hc with rfl | rfl | rfl | rfl | rfl | rfl | rfl
    · cases hw
      exact n0
    · cases hw
      exact n1
    · cases hw
      exact n2
    · cases hw
      exact n3
    · cases hw
      exact n4
    · cases hw
      exact n5
    · cases hw
      exact n6), fun w hw => (by
    cases hw
    exact g)⟩, e1, Or.inr ⟨_, s1, rfl, g, z1, rg⟩⟩
  obtain ⟨-, L8, hL8, r8, H8, q8, k8⟩ := (h_k8 h.1 hL7 q).resolve_right (fun z => z.1 rfl)
  rcases rG_tk (ws := [108, 101, 102, 116]) h (wOk_of rfl) (by decide) (by decide) (by decide) q8 k8 with ⟨g, s1, z1, rg, q⟩ | ⟨n8, h, q⟩
  · obtain ⟨e1, e2⟩ := ((h_k9 rg.1 hL8 q).resolve_left (fun z => absurd z.1 (by decide))).2
    rw [← e2] at rg
    exact ⟨8, by decide, ⟨fun i w hi hw => (by
    have hc : i = 0 ∨ i = 1 ∨ i = 2 ∨ i = 3 ∨ i = 4 ∨ i = 5 ∨ i = 6 ∨ i = 7 := by omega
    rcases hc with rfl | rfl | rfl | rfl | rfl | rfl | rfl | rfl
    · cases hw
      exact n0
    · cases hw
      exact n1
    · cases hw
      exact n2
    · cases hw
      exact n3
    · cases hw
      exact n4
    · cases hw
      exact n5
    · cases hw
      exact n6
    · cases hw
      exact n7), fun w hw => (by
    cases hw
    exact g)⟩, e1, Or.inr ⟨_, s1, rfl, g, z1, rg⟩⟩
  obtain ⟨-, L9, hL9, r9, H9, q9, k9⟩ := (h_k9 h.1 hL8 q).resolve_right (fun z => z.1 rfl)
  rcases rG_tk (ws := [115, 104, 97, 114, 101, 100]) h (wOk_of rfl) (by decide) (by decide) (by decide) q9 k9 with ⟨g, s1, z1, rg, q⟩ | ⟨n9, h, q⟩
  · obtain ⟨e1, e2⟩ := ((h_k10 rg.1 hL9 q).resolve_left (fun z => absurd z.1 (by decide))).2
    rw [← e2] at rg
    exact ⟨9, by decide, ⟨fun i w hi hw => (by
    have hc : i = 0 ∨ i = 1 ∨ i = 2 ∨ i = 3 ∨ i = 4 ∨ i = 5 ∨ i = 6 ∨ i = 7 ∨ i = 8 := by omega
    rcases hc with rfl | rfl | rfl | rfl | rfl | rfl | rfl | rfl | rfl
    · cases hw
      exact n0
    · cases hw
      exact n1
    · cases hw
      exact n2
    · cases hw
      exact n3
    · cases hw
      exact n4
    · cases hw
      exact n5
    · cases hw
      exact n6
    · cases hw
      exact n7
    · cases hw
      exact n8), fun w hw => (by
    cases hw
    exact g)⟩, e1, Or.inr ⟨_, s1, rfl, g, z1, rg⟩⟩
  obtain ⟨e1, e2⟩ := ((h_k10 h.1 hL9 q).resolve_right (fun z => z.1 rfl)).2
  rw [← e2] at h
  exact ⟨10, by decide, ⟨fun i w hi hw => (by
    have hc : i = 0 ∨ i = 1 ∨ i = 2 ∨ i = 3 ∨ i = 4 ∨ i = 5 ∨ i = 6 ∨ i = 7 ∨ i = 8 ∨ i = 9 := by omega
    rcases hc with rfl | rfl | rfl | rfl | rfl | rfl | rfl | rfl | rfl | rfl
    · cases hw
      exact n0
    · cases hw
      exact n1
    · cases hw
      exact n2
    · cases hw
      exact n3
    · cases hw
      exact n4
    · cases hw
      exact n5
    · cases hw
      exact n6
    · cases hw
      exact n7
    · cases hw
      exact n8
    · cases hw
      exact n9), fun w hw => (by cases hw)⟩, e1, Or.inl ⟨rfl, h⟩⟩
end PCTW

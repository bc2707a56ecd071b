/-! PC: the TONGUE in step: rule by rule -/
section PCTL
variable {m : Nat} {L : mjL} {S : List Value} {H H' H0 H1 H2 : mjH} {r r2 : Option Value ⊕ Nat} {tx : Nat → Nat} {n s s' o e k0 pc0 Q : Nat} {cs : List Int} {rs : List (Int × Int)}
/-- the codes of all rules, and where a rule's begin: the reference -/
def ruS (ru : tgRu) : List (Int × Int) := ru.flatMap (fun q => q.2)
def frO (ru : tgRu) (i : Nat) : Nat := (ruS (ru.take i)).length
theorem ruS_ap (ru : tgRu) (q : Int × List (Int × Int)) : ruS (ru ++ [q]) = ruS ru ++ q.2 := by
  unfold ruS
  rw [List.flatMap_append, List.flatMap_cons, List.flatMap_nil, List.append_nil]
theorem tgCode_ap (ru : tgRu) (q : Int × List (Int × Int)) : tgCode (ru ++ [q]) = tgCode ru ++ q.2.map tgE ++ [3000 + q.1] := by
  unfold tgCode
  rw [List.flatMap_append, List.flatMap_cons, List.flatMap_nil, List.append_nil, List.append_assoc]
theorem frO_ap {ru : tgRu} {q : Int × List (Int × Int)} {i : Nat} (h : i ≤ ru.length) : frO (ru ++ [q]) i = frO ru i := by
  unfold frO
  rw [List.take_append_of_le_length h]
theorem frO_len (ru : tgRu) : frO ru ru.length = (ruS ru).length := by
  unfold frO
  rw [List.take_length]
/-- the reference's rules, as read -/
def rRu (H : mjH) (ru : tgRu) : Prop := gI H 78 26 = Int32.ofInt (ru.length : Int) ∧ ru.length ≤ 10 ∧ ∀ (i : Nat) (q : Int × List (Int × Int)), ru[i]? = some q → gI H (107 + i) 0 = Int32.ofInt q.1 ∧ gI H (107 + i) 1 = Int32.ofInt (frO ru i : Int) ∧ gI H (107 + i) 2 = Int32.ofInt ((frO ru i + q.2.length : Nat) : Int)
/-- what reading a TONGUE may write: the reference -/
def tWr (a b : Nat) : Prop := (a = 78 ∧ ((4 ≤ b ∧ b ≤ 8) ∨ b = 26 ∨ b = 28)) ∨ (107 ≤ a ∧ a ≤ 116) ∨ (339 ≤ a ∧ a ≤ 558)
def tFm (H H' : mjH) : Prop := ∀ a b, ¬ tWr a b → sxEl H' a b = sxEl H a b
theorem tFm.rf : tFm H H := fun _ _ _ => rfl
theorem tFm.tr (h1 : tFm H H1) (h2 : tFm H1 H2) : tFm H H2 := fun a b h => (h2 a b h).trans (h1 a b h)
theorem rRu_cg {ru : tgRu} (h : rRu H ru) (hs : ∀ a b, (a = 78 ∧ b = 26) ∨ (107 ≤ a ∧ a ≤ 116) → sxEl H' a b = sxEl H a b) : rRu H' ru := ⟨(gI_cgE (hs 78 26 (by omega))).trans h.1, h.2.1, fun i q hq => by
  have hi := (List.getElem?_eq_some_iff.mp hq).1
  have hl := h.2.1
  obtain ⟨a, b, c⟩ := h.2.2 i q hq
  exact ⟨(gI_cgE (hs (107 + i) 0 (by omega))).trans a, (gI_cgE (hs (107 + i) 1 (by omega))).trans b, (gI_cgE (hs (107 + i) 2 (by omega))).trans c⟩⟩
theorem frIn_c {W : frW} {a b : Nat} (h : frIn W a b = true) : ∃ q, q ∈ W ∧ (q.1 ≤ a ∧ a ≤ q.2.1) ∧ q.2.2.1 ≤ b ∧ b ≤ q.2.2.2 := by
  obtain ⟨q, h1, h2⟩ := List.any_eq_true.mp h
  simp only [Bool.and_eq_true] at h2
  exact ⟨q, h1, ⟨Nat.le_of_ble_eq_true h2.1.1, Nat.le_of_ble_eq_true h2.1.2⟩, Nat.le_of_ble_eq_true h2.2.1, Nat.le_of_ble_eq_true h2.2.2⟩
/-- these lie within those places -/
def inW (V W : frW) : Bool := V.all (fun q => W.any (fun p => (Nat.ble p.1 q.1 && Nat.ble q.2.1 p.2.1) && (Nat.ble p.2.2.1 q.2.2.1 && Nat.ble q.2.2.2 p.2.2.2)))
theorem inW_ok {V W : frW} {a b : Nat} (h : inW V W = true) (hi : frIn V a b = true) : ∃ p, p ∈ W ∧ (p.1 ≤ a ∧ a ≤ p.2.1) ∧ p.2.2.1 ≤ b ∧ b ≤ p.2.2.2 := by
  obtain ⟨q, q1, q2, q3⟩ := frIn_c hi
  obtain ⟨p, p1, p2⟩ := List.any_eq_true.mp (List.all_eq_true.mp h q q1)
  simp only [Bool.and_eq_true] at p2
  have a1 := Nat.le_of_ble_eq_true p2.1.1
  have a2 := Nat.le_of_ble_eq_true p2.1.2
  have a3 := Nat.le_of_ble_eq_true p2.2.1
  have a4 := Nat.le_of_ble_eq_true p2.2.2
  exact ⟨p, p1, by omega, by omega, by omega⟩
/-- a method of the law's tables, from its start: what it leaves alone -/
theorem frEnd {MS : List frMt} (aoAll' : ∀ M, M ∈ MS → frOk1 MS M = true) {M : frMt} {s : frS} (hM : M ∈ MS) (h0 : M.2.2.2.2.2.2 = []) (hs : frSu M.2.2.2.2.1 (0, s) = true) (hst : s.2 = []) (hL : frLR s.1 L) (hT : HT H) (h : Pn none m M.1 0 L [] H r H') : frEd M H r H' := by
  rcases frMain aoAll' m M hM 0 0 s hs none L [] H r H' hL (by rw [hst]; trivial) hT h with ih | ⟨p, _, _, _, _, _, a1, _⟩
  · exact ih
  · unfold frSt0 at a1
    rw [h0] at a1
    cases a1
theorem lFr {M : frMt} {s : frS} (hM : M ∈ lMs) (h0 : M.2.2.2.2.2.2 = []) (hs : frSu M.2.2.2.2.1 (0, s) = true) (hst : s.2 = []) (hL : frLR s.1 L) (hT : HT H) (h : Pn none m M.1 0 L [] H r H') : frEd M H r H' := by
  rcases frMain (List.all_eq_true.mp loAll) m M hM 0 0 s hs none L [] H r H' hL (by rw [hst]; trivial) hT h with ih | ⟨p, _, _, _, _, _, a1, _⟩
  · exact ih
  · unfold frSt0 at a1
    rw [h0] at a1
    cases a1
theorem lVo {M : frMt} (ed : frEd M H r H') (hr : M.2.2.2.1 = none) : vO r := by
  obtain ⟨-, -, h⟩ := ed
  cases r with
  | inr E => exact Or.inr ⟨E, rfl⟩
  | inl cv =>
    have h := h cv rfl
    rw [hr] at h
    cases cv with
    | none => exact Or.inl rfl
    | some w => exact h.elim
theorem lFw {W : frW} {V : frW} (h : frFr V H H') (hi : inW V W = true) (hn : ∀ a b, (∃ p, p ∈ W ∧ (p.1 ≤ a ∧ a ≤ p.2.1) ∧ p.2.2.1 ≤ b ∧ b ≤ p.2.2.2) → tWr a b) : tFm H H' := fun a b hab => h a b (by
  cases e : frIn V a b with
  | false => rfl
  | true => exact absurd (hn a b (inW_ok hi e)) hab)
theorem tAny_fr (hT : HT H) (h : Pn none m 228 0 [(0, .ref 78)] [] H r H') : ∀ a b, (a = 78 ∧ b = 26) ∨ (107 ≤ a ∧ a ≤ 116) → sxEl H' a b = sxEl H a b := by
  have f := (lFr (M := lM386) (s := ([(0, .inl [78])], [])) lIn386 rfl (by decide +kernel) rfl (frLR_c rfl one78 frLR_n) hT h).2.1
  intro a b hab
  refine f a b ?_
  cases e : frIn (lM386).2.2.1 a b with
  | false => rfl
  | true =>
    obtain ⟨p, p1, p2, p3⟩ := inW_ok (W := [(78, 78, 4, 8), (78, 78, 28, 28), (339, 558, 0, 100000)]) (by decide +kernel) e
    simp only [List.mem_cons, List.not_mem_nil, or_false] at p1
    rcases p1 with rfl | rfl | rfl <;> (dsimp only at p2 p3; omega)
theorem tWho_fr (hT : HT H) (h : Pn none m 235 0 [(0, .ref 78)] [] H r H') : tFm H H' := by
  have f := (lFr (M := lM320) (s := ([(0, .inl [78])], [])) lIn320 rfl (by decide +kernel) rfl (frLR_c rfl one78 frLR_n) hT h).2.1
  refine lFw (W := [(78, 78, 4, 8), (78, 78, 26, 26), (78, 78, 28, 28), (107, 116, 0, 100000), (339, 558, 0, 100000)]) f (by decide +kernel) (fun a b hp => ?_)
  obtain ⟨p, p1, p2, p3⟩ := hp
  simp only [List.mem_cons, List.not_mem_nil, or_false] at p1
  unfold tWr
  rcases p1 with rfl | rfl | rfl | rfl | rfl <;> (dsimp only at p2 p3; omega)
theorem eEnd_fr (hQ : Q = 19 ∨ Q = 23) (hT : HT H) (h : Pn none m 104 0 [(0, .ref 1), (1, .ref Q)] [] H r H') : gI H' Q 0 = gI H Q 0 := by
  have f := (lFr (M := lM401) (s := ([(0, .inl [1]), (1, .inl [19, 23])], [])) lIn401 rfl (by decide +kernel) rfl (frLR_c rfl one1 (frLR_c rfl (oneQ hQ) frLR_n)) hT h).2.1
  refine gI_cgE (f Q 0 ?_)
  rcases hQ with rfl | rfl <;> decide +kernel
theorem tBl (hT : HT H) (h : Pn none m 201 0 [(0, .ref 78)] [] H r H') : HT H' ∧ (∀ a b, ¬ (a = 78 ∧ b = 4) → sxEl H' a b = sxEl H a b) ∧ vO r := by
  have ed := lFr (M := lM308) (s := ([(0, .inl [78])], [])) lIn308 rfl (by decide +kernel) rfl (frLR_c rfl one78 frLR_n) hT h
  refine ⟨ed.1, fun a b hab => ed.2.1 a b ?_, lVo ed rfl⟩
  cases e : frIn (lM308).2.2.1 a b with
  | false => rfl
  | true =>
    obtain ⟨p, p1, p2, p3⟩ := inW_ok (W := [(78, 78, 4, 4)]) (by decide +kernel) e
    cases List.mem_singleton.mp p1
    dsimp only at p2 p3
    omega
theorem tTs_fr {c : Int32} (hQ : Q = 19 ∨ Q = 23) (hT : HT H) (h : Pn none m 90 0 [(0, .ref 1), (1, .int c)] [] H r H') : gI H' Q 0 = gI H Q 0 := by
  have f := (lFr (M := lM400) (s := ([(0, .inl [1]), (1, .inr false)], [])) lIn400 rfl (by decide +kernel) rfl (frLR_c rfl one1 (frLR_c rfl ⟨_, rfl⟩ frLR_n)) hT h).2.1
  refine gI_cgE (f Q 0 ?_)
  rcases hQ with rfl | rfl <;> decide +kernel
theorem tAd_fr {c : Int32} (hQ : Q = 19 ∨ Q = 23) (hT : HT H) (h : Pn none m 97 0 [(0, .ref Q), (1, .int c)] [] H r H') : gI H' Q 0 = gI H Q 0 := by
  have f := (lFr (M := lM415) (s := ([(0, .inl [19, 23]), (1, .inr false)], [])) lIn415 rfl (by decide +kernel) rfl (frLR_c rfl (oneQ hQ) (frLR_c rfl ⟨_, rfl⟩ frLR_n)) hT h).2.1
  refine gI_cgE (f Q 0 ?_)
  rcases hQ with rfl | rfl <;> decide +kernel
theorem kQ0 (hQ : Q = 19 ∨ Q = 23) : kF Q 0 7 false = true := by rcases hQ with rfl | rfl <;> decide +kernel
theorem cG_q0 {x : Int32} (hQ : Q = 19 ∨ Q = 23) (h : cG H Q cs tx n s o) : cG (pV H Q 0 (.int x)) Q cs tx n s o := by
  have hF : ∀ a b, ¬ (a = Q ∧ b = 0) → sxEl (pV H Q 0 (.int x)) a b = sxEl H a b := fun a b z => sxEl_ne z
  obtain ⟨⟨c1, c2, c3, c4, c9⟩, c5, c6, c7, c8⟩ := h
  exact ⟨⟨HT.pFI c1 (kQ0 hQ), c2.cg (fun a b z => hF a b (by omega)), cAt_cg c3 (fun b _ _ => hF 1 b (by omega)), (gI_cgE (hF 1 7 (by omega))).trans c4, (gI_cgE (hF 1 8 (by omega))).trans c9⟩, c5, (gI_cgE (hF Q 2 (by omega))).trans c6, c7, fun i c hi => (gI_cgE (hF (Q + 1) i (by omega))).trans (c8 i c hi)⟩
theorem cG_go (h : cG H Q cs tx n s o) (q : Pn none m 84 0 [(0, .ref 1)] [] H r2 H2) (k : Kt m k0 pc0 L S r2 H2 r H') : (s < n ∧ Pn none m k0 pc0 L (.int (Int32.ofInt 1) :: S) H r H') ∨ (s = n ∧ Pn none m k0 pc0 L (.int (Int32.ofInt 0) :: S) H r H') := by
  obtain ⟨⟨c1, c2, c3, c4, c9⟩, -⟩ := h
  obtain ⟨a1, a2, a3, a4, kd, v, e, a5, a6, a7, a8, a9⟩ := c3
  have hk := ztok_k a5
  have hb := x_go c1 ⟨rfl, trivial⟩ q
  rw [a6, zz_eq, zz_eq] at hb
  have hs : (s < n ∧ 0 < kd) ∨ (s = n ∧ kd = 0) := by
    rcases a5 with ⟨g, g1, -, -⟩ | ⟨g, -, g1, -⟩ | ⟨g, -, g1, -⟩ | ⟨g, -, -, g1, -⟩
    · exact Or.inr ⟨by omega, g1⟩
    · exact Or.inl ⟨g, by omega⟩
    · exact Or.inl ⟨g, by omega⟩
    · exact Or.inl ⟨g, by omega⟩
  rcases hb with ⟨g, e1, e2⟩ | ⟨g, ⟨g2, e1, e2⟩ | ⟨g2, e1, e2⟩⟩
  · rw [e1, e2] at k
    exact Or.inr ⟨by omega, Kt_i k⟩
  · omega
  · rw [e1, e2] at k
    exact Or.inl ⟨by omega, Kt_i k⟩
theorem kC3 {i : Nat} (h : i < 10) : kA (107 + i) 100 3 false = true := List.all_eq_true.mp (show (List.range 10).all (fun j => kA (107 + j) 100 3 false) = true by decide +kernel) i (List.mem_range.mpr h)
/-- the reference's rule begins -/
theorem rRu_beg {ru : tgRu} {w : Int} (hr : rG H (ruS ru) tx n s o) (hu : rRu H ru) (hl : ru.length < 10) : rG (pV (pV H (107 + ru.length) 0 (.int (Int32.ofInt w))) (107 + ru.length) 1 (.int (gI H 78 28))) (ruS ru) tx n s o ∧ rRu (pV (pV H (107 + ru.length) 0 (.int (Int32.ofInt w))) (107 + ru.length) 1 (.int (gI H 78 28))) ru ∧ gI (pV (pV H (107 + ru.length) 0 (.int (Int32.ofInt w))) (107 + ru.length) 1 (.int (gI H 78 28))) (107 + ru.length) 0 = Int32.ofInt w ∧ gI (pV (pV H (107 + ru.length) 0 (.int (Int32.ofInt w))) (107 + ru.length) 1 (.int (gI H 78 28))) (107 + ru.length) 1 = Int32.ofInt ((ruS ru).length : Int) := by
  have kc := kC3 hl
  have t1 := HT.pI (x := Int32.ofInt w) (j := 0) hr.1 kc
  have t2 := HT.pI (x := gI H 78 28) (j := 1) t1 kc
  have hF : ∀ a b, a ≠ 107 + ru.length → sxEl (pV (pV H (107 + ru.length) 0 (.int (Int32.ofInt w))) (107 + ru.length) 1 (.int (gI H 78 28))) a b = sxEl H a b := fun a b z => by rw [sxEl_ne (fun q => z q.1), sxEl_ne (fun q => z q.1)]
  refine ⟨rG_cg hr t2 (fun a b z => hF a b (by omega)), ⟨(gI_cgE (hF 78 26 (by omega))).trans hu.1, hu.2.1, fun i q hq => ?_⟩, ?_, ?_⟩
  · have hi := (List.getElem?_eq_some_iff.mp hq).1
    obtain ⟨a, b, c⟩ := hu.2.2 i q hq
    exact ⟨(gI_cgE (hF (107 + i) 0 (by omega))).trans a, (gI_cgE (hF (107 + i) 1 (by omega))).trans b, (gI_cgE (hF (107 + i) 2 (by omega))).trans c⟩
  · rw [gI_ne (by omega)]
    exact gI_at hr.1 kc (by decide)
  · rw [gI_at t1 kc (by decide)]
    exact hr.2.2.2.2.1
/-- the reference's rule ends -/
theorem rRu_end {ru : tgRu} {q : Int × List (Int × Int)} (hr : rG H (ruS ru ++ q.2) tx n s o) (hu : rRu H ru) (hl : ru.length < 10) (h0 : gI H (107 + ru.length) 0 = Int32.ofInt q.1) (h1 : gI H (107 + ru.length) 1 = Int32.ofInt ((ruS ru).length : Int)) : rG (pV (pV H (107 + ru.length) 2 (.int (gI H 78 28))) 78 26 (.int (gI H 78 26 + Int32.ofInt 1))) (ruS (ru ++ [q])) tx n s o ∧ rRu (pV (pV H (107 + ru.length) 2 (.int (gI H 78 28))) 78 26 (.int (gI H 78 26 + Int32.ofInt 1))) (ru ++ [q]) := by
  have kc := kC3 hl
  have t1 := HT.pI (x := gI H 78 28) (j := 2) hr.1 kc
  have t2 := HT.pFI (x := gI H 78 26 + Int32.ofInt 1) t1 kF_78_26_9_false
  have hF : ∀ a b, ¬ (a = 78 ∧ b = 26) → ¬ (a = 107 + ru.length ∧ b = 2) → sxEl (pV (pV H (107 + ru.length) 2 (.int (gI H 78 28))) 78 26 (.int (gI H 78 26 + Int32.ofInt 1))) a b = sxEl H a b := fun a b z1 z2 => by rw [sxEl_ne z1, sxEl_ne z2]
  refine ⟨by rw [ruS_ap]; exact rG_cg hr t2 (fun a b z => hF a b (by omega) (by omega)), ?_, ?_, ?_⟩
  · rw [gI_fat t1 kF_78_26_9_false, hu.1, zz_add, List.length_append, List.length_singleton]
    exact congrArg Int32.ofInt (by omega)
  · rw [List.length_append, List.length_singleton]
    omega
  · intro i p hp
    rcases ap_at hp with hp | ⟨hi, hpq⟩
    · have hi := (List.getElem?_eq_some_iff.mp hp).1
      obtain ⟨a, b, c⟩ := hu.2.2 i p hp
      rw [frO_ap (by omega)]
      exact ⟨(gI_cgE (hF (107 + i) 0 (by omega) (by omega))).trans a, (gI_cgE (hF (107 + i) 1 (by omega) (by omega))).trans b, (gI_cgE (hF (107 + i) 2 (by omega) (by omega))).trans c⟩
    · rw [hi, hpq, frO_ap (Nat.le_refl _), frO_len]
      refine ⟨(gI_cgE (hF (107 + ru.length) 0 (by omega) (by omega))).trans h0, (gI_cgE (hF (107 + ru.length) 1 (by omega) (by omega))).trans h1, ?_⟩
      rw [gI_ne (by omega), gI_at hr.1 kc (by decide), hr.2.2.2.2.1, List.length_append]
/-- how two that read rules end -/
def tRO (Q : Nat) (H0 : mjH) (tx : Nat → Nat) (n : Nat) (rc : Option Value ⊕ Nat) (Hc' : mjH) (rr : Option Value ⊕ Nat) (Hr' : mjH) : Prop := ((HT Hc' ∧ cBad Hc' ∧ vO rc) ∧ ((∃ E, rr = .inr E) ∨ ∃ (mx : Nat) (Lx : mjL) (Hx : mjH), HT Hx ∧ rBad Hx ∧ tFm H0 Hx ∧ LG Lx [(0, .ref 78)] ∧ Pn none mx 236 55 Lx [] Hx rr Hr')) ∨ (rc = .inl none ∧ ∃ (ru : tgRu) (mx : Nat) (Lx : mjL) (Hx : mjH), tgOk ru ∧ cG Hc' Q (tgCode ru) tx n n 0 ∧ gI Hc' Q 0 = Int32.ofInt (ru.length : Int) ∧ rP Hx (ruS ru) tx n n 0 ∧ rRu Hx ru ∧ tFm H0 Hx ∧ LG Lx [(0, .ref 78)] ∧ Pn none mx 236 55 Lx [] Hx rr Hr')
theorem wWs_at {j : Nat} {w : List Nat} (h : wWs[j]? = some w) : j < 3 ∧ 0 < w.length := by
  have h1 := (List.getElem?_eq_some_iff.mp h).1
  have h2 : ∀ w, w ∈ wWs → 0 < w.length := by decide
  exact ⟨h1, h2 w (List.mem_of_getElem? h)⟩
/-- the reference's call of whoHere, by the word that stands there -/
theorem rG_wh {ru : tgRu} (hr : rG H (ruS ru) tx n s 0) (hu : rRu H ru) (h : Pn none m 235 0 [(0, .ref 78)] [] H r H') : ∃ j, j ≤ 3 ∧ fW tx n s wWs j ∧ (((j = 3 ∨ ru.length = 10) ∧ HT H' ∧ rBad H' ∧ vO r) ∨ ((j < 3 ∧ ru.length < 10) ∧ ∃ (w : List Nat) (s1 : Nat) (L1 : mjL) (H1 : mjH) (r3 : Option Value ⊕ Nat) (H3 : mjH), wWs[j]? = some w ∧ ztRun ztBl tx n (s + w.length) s1 ∧ rG H1 (ruS ru) tx n s1 0 ∧ rRu H1 ru ∧ gI H1 (107 + ru.length) 0 = Int32.ofInt (j : Int) ∧ gI H1 (107 + ru.length) 1 = Int32.ofInt ((ruS ru).length : Int) ∧ LG L1 [(0, .ref 78)] ∧ Pn none m 228 0 [(0, .ref 78)] [] H1 r3 H3 ∧ Kt m 235 138 L1 [] r3 H3 r H')) := by
  obtain ⟨hl0, hl1, hl2⟩ := hu
  -- behind the word: too many, or the rule begins
  have fin : ∀ (j : Nat) (w : List Nat) (Hx : mjH) (Lx : mjL), fW tx n s wWs j → wWs[j]? = some w → rP Hx (ruS ru) tx n s 0 → rFr H Hx → ((¬ gI Hx 78 26 = Int32.ofInt 10) ∧ ((gI Hx 78 5 = Int32.ofInt 0 ∧ ∃ L', LG L' [(0, .ref 78), (1, .int (Int32.ofInt (j : Int)))] ∧ ∃ r2 H2, Pn none m 209 0 [(0, .ref 78)] [] Hx r2 H2 ∧ Kt m 235 107 L' [] r2 H2 r H') ∨ (¬ gI Hx 78 5 = Int32.ofInt 0 ∧ (r = .inl none ∧ H' = Hx)))) ∨ (¬ (¬ gI Hx 78 26 = Int32.ofInt 10) ∧ ∃ L', LG L' [(0, .ref 78), (1, .int (Int32.ofInt (j : Int)))] ∧ ∃ r2 H2, Pn none m 202 0 [(0, .ref 78), (1, .int (Int32.ofInt 3)), (2, .int (gI Hx 78 4))] [] Hx r2 H2 ∧ Kt m 235 95 L' [] r2 H2 r H') → ∃ j, j ≤ 3 ∧ fW tx n s wWs j ∧ (((j = 3 ∨ ru.length = 10) ∧ HT H' ∧ rBad H' ∧ vO r) ∨ ((j < 3 ∧ ru.length < 10) ∧ ∃ (w : List Nat) (s1 : Nat) (L1 : mjL) (H1 : mjH) (r3 : Option Value ⊕ Nat) (H3 : mjH), wWs[j]? = some w ∧ ztRun ztBl tx n (s + w.length) s1 ∧ rG H1 (ruS ru) tx n s1 0 ∧ rRu H1 ru ∧ gI H1 (107 + ru.length) 0 = Int32.ofInt (j : Int) ∧ gI H1 (107 + ru.length) 1 = Int32.ofInt ((ruS ru).length : Int) ∧ LG L1 [(0, .ref 78)] ∧ Pn none m 228 0 [(0, .ref 78)] [] H1 r3 H3 ∧ Kt m 235 138 L1 [] r3 H3 r H')) := by
    intro j w Hx Lx hj hw rp hF hb
    have hu2 : rRu Hx ru := rRu_cg ⟨hl0, hl1, hl2⟩ (fun a b z => hF a b (by omega))
    have hjl := (wWs_at hw).1
    rw [hu2.1, zz_eq] at hb
    rcases hb with ⟨g, hb⟩ | ⟨g, L1, hL1, r1, H1, q1, k1⟩
    · obtain ⟨-, L1, hL1, r1, H1, q1, k1⟩ := hb.resolve_right (fun z => z.1 rp.2.2.1)
      obtain ⟨s1, z1, rg, hh⟩ := rP_sk rp (hj.2 w hw) q1 k1
      obtain ⟨e, t1, t2, t3, t4, t5, t6⟩ := py_skip rp.1 rp.2.1.1 rp.2.1.2.2.1 rp.2.1.2.1 q1
      have hu3 : rRu H1 ru := rRu_cg hu2 (fun a b z => t5 a b (by omega))
      have hlt : ru.length < 10 := by omega
      have hb := h_w6 rg.1 hL1 hh
      rw [hu3.1, zz_cn] at hb
      obtain ⟨-, L2, hL2, r2, H2, q2, k2⟩ := hb
      obtain ⟨b1, b2, b3, b4⟩ := rRu_beg (w := (j : Int)) rg hu3 hlt
      exact ⟨j, by omega, hj, Or.inr ⟨⟨hjl, hlt⟩, w, s1, L2, _, r2, H2, hw, z1, b1, b2, b3, b4, hL2, q2, k2⟩⟩
    · obtain ⟨b1, b2, hh⟩ := rG_wr (rP_g rp) (by decide) q1 k1
      have hb := h_w5 b1 hL1 hh
      obtain ⟨-, e1, e2⟩ := hb.resolve_left (fun z => b2 z.1)
      exact ⟨j, by omega, hj, Or.inl ⟨Or.inr (by omega), by rw [e2]; exact b1, by rw [e2]; exact b2, Or.inl e1⟩⟩
  obtain ⟨L0, hL0, r0, H0, q0, k0⟩ := h_w0 hr.1 ⟨rfl, trivial⟩ h
  have f0 : rFr H H0 := (py_isw (ws := [98, 111, 116, 104]) hr.1 hr.2.1 hr.2.2.1 (wOk_of rfl) (by decide) (by decide) (by decide) q0).2.2.1
  obtain ⟨p0, w0⟩ := rG_isw (ws := [98, 111, 116, 104]) hr (wOk_of rfl) (by decide) (by decide) (by decide) q0 k0
  rcases w0 with ⟨g, h⟩ | ⟨n0, h⟩
  · exact fin 0 _ H0 L0 ⟨fun i w hi _ => absurd hi (Nat.not_lt_zero i), fun w hw => (by
    cases hw
    exact g)⟩ rfl p0 f0 ((h_w1 p0.1 hL0 h).resolve_left (fun z => absurd z.1 (by decide))).2
  obtain ⟨-, L1, hL1, r1, H1, q1, k1⟩ := (h_w1 p0.1 hL0 h).resolve_right (fun z => z.1 rfl)
  have f1 : rFr H0 H1 := (py_isw (ws := [110, 101, 119]) p0.1 (rP_g p0).2.1 p0.2.2.1 (wOk_of rfl) (by decide) (by decide) (by decide) q1).2.2.1
  obtain ⟨p1, w1⟩ := rG_isw (ws := [110, 101, 119]) (rP_g p0) (wOk_of rfl) (by decide) (by decide) (by decide) q1 k1
  rcases w1 with ⟨g, h⟩ | ⟨n1, h⟩
  · exact fin 1 _ H1 L1 ⟨fun i w hi hw => (by
    have hc : i = 0 := by omega
    rcases hc with rfl
    · cases hw
      exact n0), fun w hw => (by
    cases hw
    exact g)⟩ rfl p1 (f0.tr f1) ((h_w2 p1.1 hL1 h).resolve_left (fun z => absurd z.1 (by decide))).2
  obtain ⟨-, L2, hL2, r2, H2, q2, k2⟩ := (h_w2 p1.1 hL1 h).resolve_right (fun z => z.1 rfl)
  have f2 : rFr H1 H2 := (py_isw (ws := [111, 108, 100]) p1.1 (rP_g p1).2.1 p1.2.2.1 (wOk_of rfl) (by decide) (by decide) (by decide) q2).2.2.1
  obtain ⟨p2, w2⟩ := rG_isw (ws := [111, 108, 100]) (rP_g p1) (wOk_of rfl) (by decide) (by decide) (by decide) q2 k2
  rcases w2 with ⟨g, h⟩ | ⟨n2, h⟩
  · exact fin 2 _ H2 L2 ⟨fun i w hi hw => (by
    have hc : i = 0 ∨ i = 1 := by omega
    rcases hc with rfl | rfl
    · cases hw
      exact n0
    · cases hw
      exact n1), fun w hw => (by
    cases hw
    exact g)⟩ rfl p2 ((f0.tr f1).tr f2) ((h_w3 p2.1 hL2 h).resolve_left (fun z => absurd z.1 (by decide))).2
  obtain ⟨-, L3, hL3, r3, H3, q3, k3⟩ := (h_w3 p2.1 hL2 h).resolve_right (fun z => z.1 rfl)
  obtain ⟨b1, b2, hh⟩ := rG_wr (rP_g p2) (by decide) q3 k3
  obtain ⟨-, e1, e2⟩ := (h_w4 b1 hL3 hh).resolve_left (fun z => b2 z.1)
  exact ⟨3, by decide, ⟨fun i w hi hw => (by
    have hc : i = 0 ∨ i = 1 ∨ i = 2 := by omega
    rcases hc with rfl | rfl | rfl
    · cases hw
      exact n0
    · cases hw
      exact n1
    · cases hw
      exact n2), fun w hw => (by cases hw)⟩, Or.inl ⟨Or.inl rfl, by rw [e2]; exact b1, by rw [e2]; exact b2, Or.inl e1⟩⟩
/-- behind a whoHere that ended bad -/
theorem rTl {m : Nat} {L : mjL} {H0 H2 : mjH} {r2 rr : Option Value ⊕ Nat} {Hr' : mjH} (hb : HT H2 ∧ rBad H2 ∧ vO r2) (hF : tFm H0 H2) (hL : LG L [(0, .ref 78)]) (k : Kt m 236 77 L [] r2 H2 rr Hr') : (∃ E, rr = .inr E) ∨ ∃ (mx : Nat) (Lx : mjL) (Hx : mjH), HT Hx ∧ rBad Hx ∧ tFm H0 Hx ∧ LG Lx [(0, .ref 78)] ∧ Pn none mx 236 55 Lx [] Hx rr Hr' := by
  obtain ⟨a1, a2, a3⟩ := hb
  rcases k with ⟨u, e, k⟩ | ⟨E, e, k1, k2⟩
  rotate_left
  · exact Or.inl ⟨E, k1⟩
  rcases a3 with a3 | ⟨E, a3⟩
  rotate_left
  · rw [a3] at e
    cases e
  rw [a3] at e
  cases e
  obtain ⟨Lc, hLc, r3, H3, qc, kc⟩ := h_t4 a1 hL k
  obtain ⟨b1, b2, b3⟩ := tBl a1 qc
  rcases kc with ⟨u, e, k⟩ | ⟨E, e, k1, k2⟩
  rotate_left
  · exact Or.inl ⟨E, k1⟩
  rcases b3 with b3 | ⟨E, b3⟩
  rotate_left
  · rw [b3] at e
    cases e
  rw [b3] at e
  cases e
  obtain ⟨Ld, hLd, hh⟩ := h_t5 b1 hLc k
  refine Or.inr ⟨_, Ld, H3, b1, ?_, fun a b hab => ?_, hLd, hh⟩
  · unfold rBad
    rw [gI_cgE (b2 78 5 (by omega))]
    exact a2
  · rw [b2 a b (fun z => hab (by unfold tWr; omega))]
    exact hF a b hab
theorem tRd {Q : Nat} {tx : Nat → Nat} {n : Nat} (hQ : Q = 19 ∨ Q = 23) {H0 : mjH} {rc rr : Option Value ⊕ Nat} {Hc' Hr' : mjH} : ∀ (m mr i s : Nat) (ru : tgRu) (L Lr : mjL) (Hc Hr : mjH), i ≤ s → tgOk ru → cG Hc Q (tgCode ru) tx n s 0 → gI Hc Q 0 = Int32.ofInt (ru.length : Int) → rP Hr (ruS ru) tx n s 0 → rRu Hr ru → tFm H0 Hr → LG L [(0, .ref 1), (1, .ref Q), (2, .int (Int32.ofInt (i : Int)))] → LG Lr [(0, .ref 78)] → Pn none m 102 6 L [] Hc rc Hc' → Pn none mr 236 55 Lr [] Hr rr Hr' → tRO Q H0 tx n rc Hc' rr Hr'
  | 0, _, _, _, _, _, _, _, _, _, _, _, _, _, _, _, _, _, h, _ => Pn0 h
  | m + 1, mr, i, s, ru, L, Lr, Hc, Hr, his, hok, hc, hq0, rp, hu, hF, hL, hLr, h, hh => by
    have hn := hc.2.1
    have hsn := hc.1.2.2.1.2.2.1
    have lc := hc.2.2.2.1
    have hh0 := hh
    -- nothing more
    have stop : s = n → rc = .inl none → Hc' = Hc → tRO Q H0 tx n rc Hc' rr Hr' := by
      intro hs e1 e2
      subst hs
      rw [e2]
      exact Or.inr ⟨e1, ru, mr, Lr, Hr, hok, hc, hq0, rp, hu, hF, hLr, hh0⟩
    have hb := g_rL hc.1.1 hQ hL h
    rw [zz_le] at hb
    rcases hb with ⟨g, e1, e2⟩ | ⟨g, L1, hL1, r1, H1, q1, k1⟩
    · exact stop (by omega) e1 e2
    rcases cG_go hc q1 k1 with ⟨hs, h⟩ | ⟨hs, h⟩
    rotate_left
    · obtain ⟨-, e1, e2⟩ := fO (g_r2 hc.1.1 hQ hL1 h)
      exact stop hs e1 e2
    obtain ⟨-, L2, hL2, r2, H2, q2, k2⟩ := fZ (g_r2 hc.1.1 hQ hL1 h)
    obtain ⟨j, j1, j2, j3, j4⟩ := cG_who hc q2
    rw [j3, j4] at k2
    have hb := g_r3 hc.1.1 hQ hL2 (Kt_i k2)
    have hru10 := hu.2.1
    rw [hq0, zz_lt] at hb
    -- the reference goes on
    cases mr with
    | zero => exact Pn0 hh
    | succ mr =>
    have hb2 := ((h_tL rp.1 hLr hh).resolve_left (fun z => z.1 rp.2.2.1)).2
    rw [rp.2.1.1.1.2, rp.2.1.2.2.1, zz_le] at hb2
    obtain ⟨-, La, hLa, ra, Ha, qa, ka⟩ := hb2.resolve_left (fun z => (by have := z.1; omega))
    have fw := tWho_fr rp.1 qa
    obtain ⟨i', i1, i2, hw⟩ := rG_wh (rP_g rp) hu qa
    obtain rfl := fW_un i2 j2 i1 j1
    rcases hw with ⟨hbad, a1, a2, a3⟩ | ⟨⟨hj, hlt⟩, w, s1, Lb, Hb, rb, Hb2, w1, z1, rg, hu1, v0, v1, hLb, qb, kb⟩
    · -- a fault at the word
      refine Or.inl ⟨?_, rTl ⟨a1, a2, a3⟩ (hF.tr fw) hLa ka⟩
      rcases hb with ⟨g1, ⟨g2, L3, hL3, r3, H3, q3, k3⟩ | ⟨g2, L3, hL3, r3, H3, q3, k3⟩⟩ | ⟨g1, L3, hL3, r3, H3, q3, k3⟩
      · exfalso
        rcases hbad with hbad | hbad
        · rw [if_neg (by omega)] at g1
          exact g1 rfl
        · omega
      · obtain ⟨b1, b2, h⟩ := cG_fail hc (by decide) q3 k3
        exact cEnd (M := cM1) (sS := []) cIn1 (by decide +kernel) rfl rfl (by decide +kernel) (gQi hQ hL3) b1 b2 h trivial
      · obtain ⟨b1, b2, h⟩ := cG_fail hc (by decide) q3 k3
        exact cEnd (M := cM1) (sS := []) cIn1 (by decide +kernel) rfl rfl (by decide +kernel) (gQi hQ hL3) b1 b2 h trivial
    · -- a rule
      have hw0 := wWs_at w1
      rw [if_pos hj] at hb
      rcases hb with ⟨g1, ⟨g2, L3, hL3, r3, H3, q3, k3⟩ | ⟨g2, -⟩⟩ | ⟨g1, -⟩
      rotate_left
      · omega
      · rw [zz_eq] at g1
        omega
      obtain ⟨s2, z2, cg, h⟩ := cG_step hQ hc (ztWd_end (i2.2 w w1) hw0.2) q3 k3
      rw [ztRun_un z1 z2] at rg
      have l0 := z2.1
      have q03 : gI H3 Q 0 = gI Hc Q 0 := by
        obtain ⟨_, _, _, _, _, _, f5, _⟩ := px_next hc.1.1 hc.1.2.1 hc.1.2.2.1 q3
        exact gI_cgE (f5 Q 0 (by omega))
      obtain ⟨L4, hL4, r4, H4, q4, k4⟩ := g_r6 cg.1.1 hQ hL3 h
      have f4 := eEnd_fr hQ cg.1.1 q4
      have fb := tAny_fr rg.1 qb
      rcases tAny hQ m _ s2 _ _ _ _ _ _ _ _ cg rg q4 qb with ⟨b1, b2⟩ | ⟨s3, seg, l1, e1, e2, cg3, rg3, hd⟩
      · have hbr := rBd (M := rM2) (sS := []) rIn2 (by decide +kernel) rfl rfl (by decide +kernel) (m0 hLb) b2 kb trivial
        exact Or.inl ⟨cBd (M := cM1) (sS := []) cIn1 (by decide +kernel) rfl rfl (by decide +kernel) (gQii hQ hL4) b1 k4 trivial, rTl hbr (hF.tr fw) hLa ka⟩
      rw [e1] at k4
      rw [e2] at kb
      obtain ⟨L5, hL5, r5, H5, q5, k5⟩ := g_r7 cg3.1.1 hQ hL4 (Kt_v k4)
      have hu3 : rRu Hb2 ru := rRu_cg hu1 fb
      have hb := h_w7 rg3.1 hLb (Kt_v kb)
      rw [hu3.1, zz_cn] at hb
      obtain ⟨-, Lc, hLc, rc2, Hc2, qc, kc⟩ := hb
      rw [← hu3.1] at qc
      obtain ⟨rg4, hu4⟩ := rRu_end (q := ((i' : Int), seg)) rg3 hu3 hlt ((gI_cgE (fb _ 0 (by omega))).trans v0) ((gI_cgE (fb _ 1 (by omega))).trans v1)
      rcases cG_ts hQ cg3 (fS (by decide)) q5 k5 with ⟨g3, s4, z4, cg4, h⟩ | ⟨g3, b1, b2, h⟩
      · rcases rG_sg rg4 (by decide) qc kc with ⟨-, s5, y5, rg5, hh⟩ | ⟨g4, -⟩
        rotate_left
        · exact absurd g3 g4
        have fs := (py_sign rg4.1 rg4.2.1 rg4.2.2.1 (c := 59) (by decide) qc).2.2
        rw [ztRun_un y5 z4] at rg5
        have l4 := z4.1
        obtain ⟨L6, hL6, r6, H6, q6, k6⟩ := g_r8 cg4.1.1 hQ hL5 h
        rw [zz_add] at q6
        have f6 := tAd_fr hQ cg4.1.1 q6
        have f5 := tTs_fr hQ cg3.1.1 q5
        obtain ⟨cg6, h⟩ := cG_add hQ cg4 (by rw [List.length_append, List.length_map]; omega) q6 k6
        have q06 : gI H6 Q 0 = Int32.ofInt (ru.length : Int) := f6.trans (f5.trans (f4.trans (q03.trans hq0)))
        obtain ⟨L7, hL7, h⟩ := g_r9 cg6.1.1 hQ hL6 h
        obtain ⟨e3, e4⟩ := h_w8 rg5.1 hLc hh
        rw [e3] at ka
        obtain ⟨Ld, hLd, rd, Hd, qd, kd⟩ := h_t4 (by rw [e4]; exact rg5.1) hLa (Kt_v ka)
        rw [e4] at qd
        obtain ⟨rp6, hh⟩ := rG_bl rg5 qd kd
        obtain ⟨t1, t2, t3⟩ := tBl rg5.1 qd
        obtain ⟨Le, hLe, hh⟩ := h_t5 rp6.1 hLd hh
        have hu5 : rRu Ha (ru ++ [((i' : Int), seg)]) := by
          rw [e4]
          rcases fs with ⟨-, z, -⟩ | ⟨z, -⟩
          · exact rRu_cg hu4 (fun a b q => z a b (by omega))
          · exact absurd g3 z
        have hu6 : rRu Hd (ru ++ [((i' : Int), seg)]) := rRu_cg hu5 (fun a b q => by
          rw [e4]
          exact t2 a b (by omega))
        rw [zz_add] at hL7
        have hi1 : ((i : Int) + 1) = ((i + 1 : Nat) : Int) := by omega
        rw [hi1] at hL7
        refine tRd hQ m _ (i + 1) s4 (ru ++ [((i' : Int), seg)]) L7 Le _ Hd (by omega) ?_ ?_ ?_ rp6 hu6 ?_ hL7 hLe h hh
        · intro q hq
          rcases List.mem_append.mp hq with hq | hq
          · exact hok q hq
          · cases List.mem_singleton.mp hq
            obtain ⟨d, hd⟩ := hd
            exact ⟨⟨by dsimp only; omega, by dsimp only; omega⟩, 18, d, by decide, hd⟩
        · rw [tgCode_ap]
          exact cG_q0 hQ cg6
        · rw [gI_fat cg6.1.1 (kQ0 hQ), q06, zz_add, List.length_append, List.length_singleton]
          exact congrArg Int32.ofInt (by omega)
        · intro a b hab
          rw [t2 a b (fun z => hab (by unfold tWr; omega)), ← e4]
          exact (hF.tr fw) a b hab
      · rcases rG_sg rg4 (by decide) qc kc with ⟨g4, -⟩ | ⟨-, b3, b4, hh⟩
        · exact absurd g4 g3
        obtain ⟨e3, e4⟩ := h_w8 b3 hLc hh
        exact Or.inl ⟨cEnd (M := cM1) (sS := []) cIn1 (by decide +kernel) rfl rfl (by decide +kernel) (gQii hQ hL5) b1 b2 h trivial, rTl ⟨by rw [e4]; exact b3, by rw [e4]; exact b4, Or.inl e3⟩ (hF.tr fw) hLa ka⟩
end PCTL

/-! SX: isSo, by hand: the loop -/
section SXISO
theorem isTk_at {k : Nat} (hk : k < 220) : isTk k = true := by
  have key : ∀ j i, k = 22 * j + i → i < 22 → j < 10 := fun j i h1 h2 => by omega
  obtain ⟨j, i, e, hi⟩ : ∃ j i, k = 22 * j + i ∧ i < 22 := ⟨k / 22, k % 22, by omega, by omega⟩
  have hj := key j i e hi
  subst e
  have : j = 0 ∨ j = 1 ∨ j = 2 ∨ j = 3 ∨ j = 4 ∨ j = 5 ∨ j = 6 ∨ j = 7 ∨ j = 8 ∨ j = 9 := by omega
  rcases this with rfl | rfl | rfl | rfl | rfl | rfl | rfl | rfl | rfl | rfl
  · exact List.all_eq_true.mp isTk0_ok i (List.mem_range.mpr hi)
  · exact List.all_eq_true.mp isTk1_ok i (List.mem_range.mpr hi)
  · exact List.all_eq_true.mp isTk2_ok i (List.mem_range.mpr hi)
  · exact List.all_eq_true.mp isTk3_ok i (List.mem_range.mpr hi)
  · exact List.all_eq_true.mp isTk4_ok i (List.mem_range.mpr hi)
  · exact List.all_eq_true.mp isTk5_ok i (List.mem_range.mpr hi)
  · exact List.all_eq_true.mp isTk6_ok i (List.mem_range.mpr hi)
  · exact List.all_eq_true.mp isTk7_ok i (List.mem_range.mpr hi)
  · exact List.all_eq_true.mp isTk8_ok i (List.mem_range.mpr hi)
  · exact List.all_eq_true.mp isTk9_ok i (List.mem_range.mpr hi)
theorem isLt : sxKw.2.1 < mjScr := by decide
def isFP : sxPt := (3, [(1, .ofNat 0, .ofNat 220), (2, .ofNat 0, .ofNat 220)], [(1, 2, .ofNat 0)], [(0, .inl 78), (2, isS1 1 (.ofNat 0)), (4, isS1 2 (.ofNat 0))], [], [], [], [])
def isR (v : Int) : sxPt := (3, [], [], [], [isS1 0 v], [], [], [])
set_option maxRecDepth 1000000 in
theorem isF_ok : sxGo1 (isJ 3 [] [isR (.ofNat 0), isR (.ofNat 1)]) none 100 (sxSt 239 5 isFP 0 0) = true := by decide +kernel
def isI (r : Nat) : sxPt := (4, [(1, .ofNat 0, .ofNat 220), (2, .ofNat 0, .ofNat 220), (3, .ofNat (r + 1), .ofNat 10)], [], [(0, .inl 78), (2, isS1 2 (.ofNat 0)), (3, isS1 0 (.ofNat 0)), (4, isS1 1 (.ofNat 0))], [], [], [], [])
set_option maxRecDepth 1000000 in
theorem isI_ok : (List.range 10).all (fun r => aFc r fun r => sxGo1 (isJ 4 [(5, isI r, isZ, 0, 0)] []) none 100 (sxSt 239 0 (ctIso r).2.2.1 0 0)) = true := by decide +kernel
variable {T : Nat} {V : rdVt} {scr : Option (List Int32)} {Z : mjO → Prop} {d : Nat} {H H0 : mjH} {cl : mjL} {τ : List Int}
/-- where the locals stand -/
def isL (cl : mjL) (t h k : Int) : Prop := (mjGet cl 0 = some (.ref 78) ∧ (∃ x : Int32, mjGet cl 2 = some (.int x) ∧ x.toInt = t) ∧ (∃ x : Int32, mjGet cl 3 = some (.int x) ∧ x.toInt = h) ∧ ∃ x : Int32, mjGet cl 4 = some (.int x) ∧ x.toInt = k) ∧ ∀ q ∈ cl, mjSc 579 q.2 = true
theorem isS1_v {σ : List Int} {s : Nat} {c z : Int} {v : Value} (h : sxVR σ (isS1 s c) v) (hs : σ[s]? = some z) : ∃ x : Int32, v = .int x ∧ x.toInt = z + c := by
  obtain ⟨x, rfl, y, h1, h2⟩ := h
  cases Option.some.inj (hs.symm.trans h1)
  exact ⟨x, rfl, h2⟩
theorem isS1_of {σ : List Int} {s : Nat} {c z : Int} {x : Int32} (hs : σ[s]? = some z) (hx : x.toInt = z + c) : sxVR σ (isS1 s c) (.int x) := ⟨x, rfl, z, hs, hx⟩
theorem sxLR_of {n : Nat} {σ : List Int} {ls : sxL} {cl : mjL} (h1 : ∀ q ∈ ls, ∃ v, mjGet cl q.1 = some v ∧ sxVR σ q.2 v) (h2 : ∀ q ∈ cl, mjSc n q.2 = true) : sxLR n σ ls cl := ⟨fun i a ha => h1 (i, a) (sxGt_mem ha), h2⟩
theorem ghH_pre {c : Nat → Int} {f : Nat} : ∀ {n m h : Nat}, ghH c f n = some h → m ≤ n → ∃ h', ghH c f m = some h'
  | 0, m, h, e, hm => by
    have : m = 0 := by omega
    subst this
    exact ⟨h, e⟩
  | n + 1, m, h, e, hm => by
    by_cases hmn : m = n + 1
    · subst hmn
      exact ⟨h, e⟩
    · unfold ghH at e
      split at e
      · rename_i h0 e0
        exact ghH_pre e0 (by omega)
      · cases e
theorem isCl (h : sxHR sxKw H) {k : Nat} (hk : k < 220) : ∃ x : Int32, sxEl H (118 + k) 0 = some (.int x) ∧ 0 ≤ x.toInt ∧ x.toInt ≤ 10 := by
  have hK : (List.range 220).all (fun k => match aGet2 sxKw.1 (118 + k) with | some c => (Nat.beq c.2.1 2 && (match c.2.2.2 with | .inr (false, .ofNat 0, .ofNat 10) :: _ => true | _ => false)) | none => false) = true := by decide +kernel
  have h1 := List.all_eq_true.mp hK k (List.mem_range.mpr hk)
  split at h1
  · rename_i c hc
    obtain ⟨e, he, hce⟩ := h.2 (118 + k) c hc (show 118 + k < 579 by omega)
    simp only [Bool.and_eq_true] at h1
    obtain ⟨h2, h3⟩ := h1
    have h2 : c.2.1 = 2 := beqOk h2
    have hl : c.2.1 = e.2.length := hce.1.2
    have hv : e.2[0]? = some e.2[0] := List.getElem?_eq_getElem (by omega)
    have h4 := (hce.2 0 _ hv).2
    split at h3
    · rename_i q hq
      have h5 := h4 (.inr (false, .ofNat 0, .ofNat 10)) (by rw [hq]; rfl)
      obtain ⟨x, hx, h6, h7⟩ := h5
      refine ⟨x, ?_, h6, h7⟩
      unfold sxEl
      rw [he]
      dsimp only
      rw [hv, hx]
    · cases h3
  · cases h1
/-- one turn -/
theorem isTurn {k : Nat} {t h w : Int} {wl wh nl nh dl : Int} (hck : isCk k wl wh nl nh dl = true) (hd : 3 ≤ d) (hH : sxHR sxKw H) {v0 : Nat → Nat → Option Value} (hkp : sxKp [(559, 0)] v0 (sxVw (ghL T V) scr 579 H)) (hL : isL cl t h k) (hk : k < 220) (ht : (k : Int) < t ∧ t ≤ 220) (hw : ∃ x : Int32, sxEl H (118 + k) 0 = some (.int x) ∧ x.toInt = w) (hw2 : wl ≤ w ∧ w ≤ wh) (hh : nl ≤ h ∧ h ≤ nh)
    (hgo : ∀ (cl' : mjL) (H' : mjH), isL cl' t (h + dl) ((k + 1 : Nat) : Int) → sxHR sxKw H' → sxKp [(559, 0)] v0 (sxVw (ghL T V) scr 579 H') → mjRn Z scr [] d 239 5 cl' [] H' 0 0) : mjRn Z scr [] d 239 5 cl [] H 0 0 := by
  obtain ⟨⟨l0, ⟨xt, l2, e2⟩, ⟨xh, l3, e3⟩, xk, l4, e4⟩, lsc⟩ := hL
  obtain ⟨xw, ew, ew2⟩ := hw
  refine sxSegX (J := isJ 4 [(5, isE k wl wh nl nh dl, isZ, 0, 0)] []) (p := isP k wl wh nl nh) (C0 := 0) (S0 := 0) (v0 := v0) (τ0 := [0, h, t, w]) (τ := [0, h, t, w]) (me := none) 400 hck ghGd isLt (show 0 < 4 by decide) (fun c hc => ?_) hd sxUp.rf rfl (fun b hb => (by cases hb)) trivial ?_ hH hkp (Nat.le_refl _) (Nat.le_refl _) ?_ (fun p hp => (by cases hp)) (fun q hq => (by cases hq))
  · cases List.mem_singleton.mp hc
    exact cvVal ghGd
  · refine ⟨⟨rfl, rfl⟩, fun q hq => ?_, fun q hq => (by cases hq), sxLR_of (fun q hq => ?_) lsc, trivial, fun q hq => ?_, fun q hq => (by cases hq), fun q hq => (by cases hq)⟩
    · simp only [isP, isD, List.mem_cons, List.not_mem_nil, or_false] at hq
      rcases hq with rfl | rfl | rfl
      · exact ⟨h, rfl, hh.1, hh.2⟩
      · exact ⟨t, rfl, by dsimp only; simp only [Int.ofNat_eq_natCast]; omega, by dsimp only; simp only [Int.ofNat_eq_natCast]; omega⟩
      · exact ⟨w, rfl, hw2.1, hw2.2⟩
    · simp only [isP, List.mem_cons, List.not_mem_nil, or_false] at hq
      rcases hq with rfl | rfl | rfl | rfl
      · exact ⟨_, l0, rfl⟩
      · exact ⟨_, l2, isS1_of (z := t) rfl (by rw [e2]; simp)⟩
      · exact ⟨_, l3, isS1_of (z := h) rfl (by rw [e3]; simp)⟩
      · exact ⟨_, l4, isS1_of (z := 0) rfl (by rw [e4]; simp)⟩
    · simp only [isP, List.mem_cons, List.not_mem_nil, or_false] at hq
      subst hq
      exact ⟨0, .int xw, ⟨0, rfl, by simp⟩, by decide, by dsimp only; rw [show (0 : Int).toNat = 0 from rfl]; exact (gvE (by omega)).trans ew, isS1_of (z := w) rfl (by rw [ew2]; simp)⟩
  · intro u hu τ' cl' cs' H' C S g1 g2 g3 g4 g5 g6 _
    cases List.mem_singleton.mp hu
    obtain ⟨p1, p2, p3, p4, p5, p6, p7⟩ := g2
    cases sxSR_n p5
    have hC : C = 0 := Nat.le_zero.mp g5
    have hS : S = 0 := Nat.le_zero.mp g6
    subst hC hS
    refine hgo cl' H' ?_ g3 g4
    have t1 := g1 1 h rfl
    have t2 := g1 2 t rfl
    obtain ⟨v0', a0, b0⟩ := p4.1 0 _ rfl
    cases (show v0' = .ref 78 from b0)
    obtain ⟨v2, a2, b2⟩ := p4.1 2 _ rfl
    obtain ⟨x2, rfl, c2⟩ := isS1_v b2 t2
    obtain ⟨v3, a3, b3⟩ := p4.1 3 _ rfl
    obtain ⟨x3, rfl, c3⟩ := isS1_v b3 t1
    obtain ⟨v4, a4, b4⟩ := p4.1 4 _ rfl
    obtain ⟨x4, rfl, c4⟩ := isS1_v b4 p1.2
    exact ⟨⟨a0, ⟨x2, a2, by rw [c2]; simp⟩, ⟨x3, a3, c3⟩, x4, a4, by rw [c4]; simp⟩, p4.2⟩
theorem isEnd {t h k : Int} (hd : 3 ≤ d) (hH : sxHR sxKw H) {v0 : Nat → Nat → Option Value} (hkp : sxKp [(559, 0)] v0 (sxVw (ghL T V) scr 579 H)) (hL : isL cl t h k) (hk : 0 ≤ k ∧ k ≤ 220) (ht : 0 ≤ t ∧ t ≤ 220) (htk : t ≤ k)
    (hZ : ∀ (x : Int32) (H' : mjH), x.toInt = 0 ∨ x.toInt = 1 → sxHR sxKw H' → sxKp [(559, 0)] v0 (sxVw (ghL T V) scr 579 H') → Z (.inl (some (.int x)), H', 0, 0)) : mjRn Z scr [] d 239 5 cl [] H 0 0 := by
  obtain ⟨⟨l0, ⟨xt, l2, e2⟩, ⟨xh, l3, e3⟩, xk, l4, e4⟩, lsc⟩ := hL
  refine sxSegX (J := isJ 3 [] [isR (.ofNat 0), isR (.ofNat 1)]) (p := isFP) (C0 := 0) (S0 := 0) (v0 := v0) (τ0 := [0, t, k]) (τ := [0, t, k]) (me := none) 100 isF_ok ghGd (by decide) (by decide) (fun c hc => ?_) hd sxUp.rf rfl (fun b hb => (by cases hb)) trivial ?_ hH hkp (Nat.le_refl _) (Nat.le_refl _) (fun u hu => (by cases hu)) ?_ (fun q hq => (by cases hq))
  · cases List.mem_singleton.mp hc
    exact cvVal ghGd
  · refine ⟨⟨rfl, rfl⟩, fun q hq => ?_, fun q hq => ?_, sxLR_of (fun q hq => ?_) lsc, trivial, fun q hq => (by cases hq), fun q hq => (by cases hq), fun q hq => (by cases hq)⟩
    · simp only [isFP, List.mem_cons, List.not_mem_nil, or_false] at hq
      rcases hq with rfl | rfl
      · exact ⟨t, rfl, ht.1, ht.2⟩
      · exact ⟨k, rfl, hk.1, hk.2⟩
    · simp only [isFP, List.mem_cons, List.not_mem_nil, or_false] at hq
      subst hq
      exact ⟨t, k, rfl, rfl, by dsimp only; simp only [Int.ofNat_eq_natCast]; omega⟩
    · simp only [isFP, List.mem_cons, List.not_mem_nil, or_false] at hq
      rcases hq with rfl | rfl | rfl
      · exact ⟨_, l0, rfl⟩
      · exact ⟨_, l2, isS1_of (z := t) rfl (by rw [e2]; simp)⟩
      · exact ⟨_, l4, isS1_of (z := k) rfl (by rw [e4]; simp)⟩
  · intro p hp cv τ' H' C S g1 g2 g3 g4 g5 g6
    have hC : C = 0 := Nat.le_zero.mp g5
    have hS : S = 0 := Nat.le_zero.mp g6
    subst hC hS
    have key : ∀ v : Int, p = isR v → (v = 0 ∨ v = 1) → Z (.inl cv, H', 0, 0) := by
      intro v e hv
      subst e
      obtain ⟨p1, p2, p3, p4, p5, p6, p7⟩ := g2
      cases cv with
      | none => exact p5.elim
      | some c =>
        obtain ⟨x, rfl, hx⟩ := isS1_v p5.1 p1.2
        exact hZ x H' (by rw [hx]; omega) g3 g4
    rcases List.mem_cons.mp hp with e | hp
    · exact key _ e (Or.inl rfl)
    · exact key _ (List.mem_singleton.mp hp) (Or.inr rfl)
theorem isLoop {f t : Nat} {v0 : Nat → Nat → Option Value} (hv0 : v0 = sxVw (ghL T V) scr 579 H0) (hd : 3 ≤ d) (hft : f ≤ t ∧ t ≤ 220) (hall : ∃ h, ghH (ghCc H0) f (t - f) = some h) (hH0 : sxHR sxKw H0)
    (hZ : ∀ (x : Int32) (H' : mjH), x.toInt = 0 ∨ x.toInt = 1 → sxHR sxKw H' → sxKp [(559, 0)] v0 (sxVw (ghL T V) scr 579 H') → Z (.inl (some (.int x)), H', 0, 0)) :
    ∀ (m k h : Nat) (cl : mjL) (H : mjH), t - k = m → f ≤ k → k ≤ t → ghH (ghCc H0) f (k - f) = some h → sxHR sxKw H → sxKp [(559, 0)] v0 (sxVw (ghL T V) scr 579 H) → isL cl t h k → mjRn Z scr [] d 239 5 cl [] H 0 0
  | 0, k, h, cl, H, hm, hfk, hkt, hh, hH, hkp, hL => isEnd hd hH hkp hL (by omega) (by omega) (by omega) hZ
  | m + 1, k, h, cl, H, hm, hfk, hkt, hh, hH, hkp, hL => by
    have hk : k < 220 := by omega
    obtain ⟨hl, hhl⟩ := hall
    obtain ⟨h', hh'⟩ := ghH_pre hhl (show k + 1 - f ≤ t - f by omega)
    have hs : ghS (ghCc H0 k) h = some h' := by
      rw [show k + 1 - f = (k - f) + 1 by omega] at hh'
      unfold ghH at hh'
      rw [hh] at hh'
      rw [show f + (k - f) = k by omega] at hh'
      exact hh'
    obtain ⟨x, ex, x0, x10⟩ := isCl hH0 hk
    have ew : ghCc H0 k = x.toInt := by
      unfold ghCc ghV
      rw [ex]
    have exH : sxEl H (118 + k) 0 = some (.int x) := by
      have := hkp (118 + k) 0 (by
        unfold sxMd
        simp only [List.any_cons, List.any_nil, Bool.or_false]
        have : sxMi 559 (118 + k) = false := by
          show Nat.beq 559 (118 + k) = false
          cases hb : Nat.beq 559 (118 + k) with
          | false => rfl
          | true => have := beqOk hb; omega
        rw [this])
      rw [hv0, gvE (by omega), gvE (by omega)] at this
      rw [this]
      exact ex
    have hlen := ghH_le hh
    rw [ew] at hs
    have ck := isTk_at hk
    unfold isTk at ck
    rw [aFc_eq] at ck
    have nxt : ∀ (dl : Int), (h : Int) + dl = h' → ∀ (cl' : mjL) (H' : mjH), isL cl' t (h + dl) ((k + 1 : Nat) : Int) → sxHR sxKw H' → sxKp [(559, 0)] v0 (sxVw (ghL T V) scr 579 H') → mjRn Z scr [] d 239 5 cl' [] H' 0 0 := by
      intro dl e cl' H' hL' hH' hkp'
      rw [e] at hL'
      exact isLoop hv0 hd hft ⟨hl, hhl⟩ hH0 hZ m (k + 1) h' cl' H' (by omega) (by omega) (by omega) hh' hH' hkp' hL'
    split at ck
    · rename_i c1
      split at ck
      · rename_i c2
        split at ck
        · rename_i c3
          unfold ghS at hs
          split at hs
          · cases hs
            exact isTurn c1 hd hH hkp hL hk (by omega) ⟨x, exH, rfl⟩ (by simp only [Int.ofNat_eq_natCast]; omega) (by simp only [Int.ofNat_eq_natCast]; omega) (nxt 1 (by omega))
          · split at hs
            · split at hs <;> cases hs
              exact isTurn c3 hd hH hkp hL hk (by omega) ⟨x, exH, rfl⟩ (by simp only [Int.ofNat_eq_natCast]; omega) (by simp only [Int.ofNat_eq_natCast]; omega) (nxt 0 (by omega))
            · split at hs <;> cases hs
              rename_i n1 n2 n3
              by_cases hx : x.toInt ≤ 7
              · exact isTurn c2 hd hH hkp hL hk (by omega) ⟨x, exH, rfl⟩ (by simp only [Int.ofNat_eq_natCast]; omega) (by simp only [Int.ofNat_eq_natCast]; omega) (nxt (.negSucc 0) (by omega))
              · exact isTurn ck hd hH hkp hL hk (by omega) ⟨x, exH, rfl⟩ (by simp only [Int.ofNat_eq_natCast]; omega) (by simp only [Int.ofNat_eq_natCast]; omega) (nxt (.negSucc 0) (by omega))
        · cases ck
      · cases ck
    · cases ck
theorem isIso {r : Nat} (hr : r < 10) : sxCtV sxKw (ghL T V) (ctIso r) := by
  intro scr Z d τ cl H hd hH hpre hpost _
  have hd : 3 ≤ d := hd
  have hck := List.all_eq_true.mp isI_ok r (List.mem_range.mpr hr)
  rw [aFc_eq] at hck
  have hpre0 := hpre
  obtain ⟨p1, p2, p3, p4, p5, p6, p7⟩ := hpre
  obtain ⟨zf, f1, f2, f3⟩ := p2 (1, .ofNat 0, .ofNat 220) (by simp [ctIso])
  obtain ⟨zt, t1, t2, t3⟩ := p2 (2, .ofNat 0, .ofNat 220) (by simp [ctIso])
  obtain ⟨zw, w1, w2, w3⟩ := p2 (3, .ofNat (r + 1), .ofNat 10) (by simp [ctIso])
  dsimp only at f1 f2 f3 t1 t2 t3 w1 w2 w3
  simp only [Int.ofNat_eq_natCast] at f2 f3 t2 t3 w2 w3
  have cell : ∀ {i j s : Nat} {c z : Int}, (i, ((0 : Nat), Int.ofNat j), isS1 s c) ∈ (ctIso r).2.2.1.2.2.2.2.2.1 → τ[s]? = some z → ∃ x : Int32, sxVw (ghL T V) scr 579 H i j = some (.int x) ∧ x.toInt = z + c := by
    intro i j s c z hm hs
    obtain ⟨y, v, y1, y2, y3, y4⟩ := p6 _ hm
    obtain ⟨u, u1, u2⟩ := y1
    dsimp only at u1 u2 y3 y4
    cases Option.some.inj (p1.2.symm.trans u1)
    rw [show y.toNat = j by simp only [Int.ofNat_eq_natCast] at u2; omega] at y3
    obtain ⟨x, rfl, hx⟩ := isS1_v y4 hs
    exact ⟨x, y3, hx⟩
  obtain ⟨xf, a1, a2⟩ := cell (i := 96 + r) (j := 1) (s := 1) (c := .ofNat 0) (by simp [ctIso]) f1
  obtain ⟨xt, b1, b2⟩ := cell (i := 96 + r) (j := 2) (s := 2) (c := .ofNat 0) (by simp [ctIso]) t1
  obtain ⟨xw, c1, c2⟩ := cell (i := 78) (j := 25) (s := 3) (c := .ofNat 0) (by simp [ctIso]) w1
  obtain ⟨xg, g1, -⟩ := cell (i := 579) (j := 2) (s := 0) (c := .ofNat 1) (by simp [ctIso]) p1.2
  rw [gvE (by omega)] at a1 b1 c1
  rw [gvG] at g1
  obtain ⟨hp2, -⟩ := ghB_iff g1
  have e1 : ghV H (96 + r) 1 = zf := by unfold ghV; rw [a1]; simpa using a2
  have e2 : ghV H (96 + r) 2 = zt := by unfold ghV; rw [b1]; simpa using b2
  have e3 : ghV H 78 25 = zw := by unfold ghV; rw [c1]; simpa using c2
  obtain ⟨q1, q2, q3, q4⟩ := hp2 r hr (by rw [e3]; omega)
  rw [e1] at q1
  rw [e1, e2] at q2 q4
  rw [e2] at q3
  have hZ : ∀ (x : Int32) (H' : mjH), x.toInt = 0 ∨ x.toInt = 1 → sxHR sxKw H' → sxKp [(559, 0)] (sxVw (ghL T V) scr 579 H) (sxVw (ghL T V) scr 579 H') → Z (.inl (some (.int x)), H', 0, 0) := by
    intro x H' hx hH' hkp'
    have fin : ∀ v : Int, x.toInt = v → (4, [(1, .ofNat 0, .ofNat 220), (2, .ofNat 0, .ofNat 220), (3, .ofNat (r + 1), .ofNat 10)], [], [], [isS1 0 v], [], [], []) ∈ (ctIso r).2.2.2.2.1 → Z (.inl (some (.int x)), H', 0, 0) := by
      intro v hv hm
      refine hpost (some (.int x)) H' 0 0 τ _ hm sxUp.rf hH' ⟨p1, p2, fun q hq => (by cases hq), ⟨fun i a ha => (by cases ha), fun q hq => (by cases hq)⟩, ⟨isS1_of (z := 0) p1.2 (by rw [hv]; simp), trivial⟩, fun q hq => (by cases hq), fun q hq => (by cases hq), fun q hq => (by cases hq)⟩ hkp' (Nat.le_refl _) (Nat.le_refl _)
    rcases hx with hx | hx
    · exact fin (.ofNat 0) hx (by simp [ctIso])
    · exact fin (.ofNat 1) hx (by simp [ctIso])
  refine sxSegX (J := isJ 4 [(5, isI r, isZ, 0, 0)] []) (p := (ctIso r).2.2.1) (C0 := 0) (S0 := 0) (v0 := sxVw (ghL T V) scr 579 H) (τ0 := τ) (τ := τ) (me := none) 100 hck ghGd isLt (show 0 < 4 by decide) (fun c hc => ?_) hd sxUp.rf p1.1 (fun b hb => (by cases hb)) trivial hpre0 hH sxKp.rf (Nat.le_refl _) (Nat.le_refl _) ?_ (fun p hp => (by cases hp)) (fun q hq => (by cases hq))
  · cases List.mem_singleton.mp hc
    exact cvVal ghGd
  · intro u hu τ' cl' cs' H' C S k1 k2 k3 k4 k5 k6 _
    cases List.mem_singleton.mp hu
    obtain ⟨r1, r2, r3, r4, r5, r6, r7⟩ := k2
    cases sxSR_n r5
    have hC : C = 0 := Nat.le_zero.mp k5
    have hS : S = 0 := Nat.le_zero.mp k6
    subst hC hS
    obtain ⟨v0', s0, b0⟩ := r4.1 0 _ rfl
    cases (show v0' = .ref 78 from b0)
    obtain ⟨v2, s2, d2⟩ := r4.1 2 _ rfl
    obtain ⟨x2, rfl, i2⟩ := isS1_v d2 (k1 2 _ t1)
    obtain ⟨v3, s3, d3⟩ := r4.1 3 _ rfl
    obtain ⟨x3, rfl, i3⟩ := isS1_v d3 r1.2
    obtain ⟨v4, s4, d4⟩ := r4.1 4 _ rfl
    obtain ⟨x4, rfl, i4⟩ := isS1_v d4 (k1 1 _ f1)
    exact isLoop (f := zf.toNat) (t := zt.toNat) rfl hd (by omega) (by
      obtain ⟨h, hh⟩ := q4
      exact ⟨h, by rw [show zt.toNat - zf.toNat = (zt - zf).toNat by omega]; exact hh⟩) hH hZ (zt.toNat - zf.toNat) zf.toNat 0 cl' H' rfl (Nat.le_refl _) (by omega) (by rw [Nat.sub_self]; rfl) k3 k4 ⟨⟨s0, ⟨x2, s2, by rw [i2]; simp; omega⟩, ⟨x3, s3, by rw [i3]; simp⟩, x4, s4, by rw [i4]; simp; omega⟩, r4.2⟩
end SXISO

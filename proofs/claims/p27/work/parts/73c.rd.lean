/-! the reader of a JAR beside the reference's: one answer -/
noncomputable section RD
theorem mjRn_and {P Q : mjO → Prop} {scr : Option (List Int32)} {d k pc C S : Nat} {ls : mjL} {st : List Value} {H : mjH} (h1 : mjRn P scr [] d k pc ls st H C S) (h2 : mjRn Q scr [] d k pc ls st H C S) : mjRn (fun o => P o ∧ Q o) scr [] d k pc ls st H C S := by
  obtain ⟨f, o, a1, a2⟩ := h1
  obtain ⟨g, o', b1, b2⟩ := h2
  have e : o = o' := by
    rcases Nat.le_total f g with q | q
    · exact Option.some.inj ((mjEx_mono q _ _ _ _ _ _ _ _ a1).symm.trans b1)
    · exact (Option.some.inj ((mjEx_mono q _ _ _ _ _ _ _ _ b1).symm.trans a1)).symm
  subst e
  exact ⟨f, o, a1, a2, b2⟩
theorem mjRn_some {P : mjO → Prop} {scr : Option (List Int32)} {d k pc C S : Nat} {ls : mjL} {st : List Value} {H : mjH} (h : mjRn P scr [] d k pc ls st H C S) : ∃ o, P o := by
  obtain ⟨f, o, a1, a2⟩ := h
  exact ⟨_, a2⟩
variable {T : Nat} {V V' : rdVt} {scr scr' : Option (List Int32)} {H H' : mjH} {J : Nat} {c : pxCt} {d d' : Nat} {cl cl' : mjL} {cs : List Value} {τ : List Int}
/-- places from 7 on alone speak of V -/
theorem rdVw {i j : Nat} (h : ¬(i = 579 ∧ 7 ≤ j ∧ j < 20)) : sxVw (ghL T V) scr 579 H i j = sxVw (ghL T V') scr 579 H i j := by
  unfold sxVw
  split
  · rfl
  · split
    · rename_i e
      match j, h with
      | 0, _ => rfl
      | 1, _ => rfl
      | 2, _ => rfl
      | 3, _ => rfl
      | 4, _ => rfl
      | 5, _ => rfl
      | 6, _ => rfl
      | n + 7, h =>
        have hn : 13 ≤ n := by
          rcases Nat.lt_or_ge n 13 with q | q
          · exact absurd ⟨e, by omega, by omega⟩ h
          · exact q
        have key : ghT T V n = ghT T V' n := by
          unfold ghT
          split
          · rfl
          · rw [if_neg (by omega), if_neg (by omega), if_neg (by omega), if_neg (by omega), if_neg (by omega), if_neg (by omega), if_neg (by omega), if_neg (by omega)]
        have key2 : cmX T V H n = cmX T V' H n := by
          unfold cmX
          rw [key]
        show ghX T V H n = ghX T V' H n
        unfold ghX ocX
        rw [key, key2]
    · rfl
def rdAv (p : sxPt) : Bool := match p.2.2.2.2.2.2.1 with
  | [] => p.2.2.2.2.2.1.all (fun q => match Nat.beq q.1 579 with
    | false => true
    | true => match Nat.beq q.2.1.1 0 with
      | true => (match iLe q.2.1.2 6 with | true => true | false => iLe 20 q.2.1.2)
      | false => false)
  | _ :: _ => false
theorem rdTo {p : sxPt} (hav : rdAv p = true) (h : sxPtR T 579 (sxVw (ghL T V) scr 579 H) τ p cl cs) : sxPtR T 579 (sxVw (ghL T V') scr 579 H) τ p cl cs := by
  obtain ⟨h1, h2, h3, h4, h5, h6, h7, h8⟩ := h
  unfold rdAv at hav
  split at hav
  · rename_i e
    refine ⟨h1, h2, h3, h4, h5, fun q hq => ?_, (by rw [e]; exact fun q hq => (by cases hq)), h8⟩
    obtain ⟨z, v, a1, a2, a3, a4⟩ := h6 q hq
    refine ⟨z, v, a1, a2, ?_, a4⟩
    rw [← rdVw (V := V) (V' := V')]
    · exact a3
    · rintro ⟨e1, e2⟩
      have hb := List.all_eq_true.mp hav q hq
      rw [e1] at hb
      dsimp only at hb
      split at hb
      · rename_i e3
        obtain ⟨y, y1, y2⟩ := a1
        rw [Nat.eq_of_beq_eq_true e3, h1.2] at y1
        cases Option.some.inj y1
        split at hb
        · rename_i e4
          have := iLe_ok e4
          omega
        · have := iLe_ok hb
          omega
      · cases hb
  · cases hav
/-- what a reading comes to -/
def rdV (J : Nat) (o : mjO) (z : Int) : Prop := (ghV o.2.1 1 8 = 0 ∧ z = ghV o.2.1 J 2) ∨ ((1 ≤ ghV o.2.1 1 8 ∧ ghV o.2.1 1 8 ≤ 4) ∧ z = ghV o.2.1 1 8 - 10)
theorem rdV_un {o : mjO} {y z : Int} (h1 : rdV J o y) (h2 : rdV J o z) : y = z := by
  rcases h1 with ⟨a, b⟩ | ⟨a, b⟩ <;> rcases h2 with ⟨c, d⟩ | ⟨c, d⟩ <;> omega
/-- the class's place of what is told k-th; what the reference tells, and where its fault stands -/
def rdFl (k : Nat) : Nat := match k with
  | 0 => 0
  | n + 1 => n + 2
def rdU (b : mjO) (k : Nat) : Int := if k < 6 then ghV b.2.1 82 k else ghV b.2.1 78 3
def rdW (J : Nat) (o : mjO) (w : Nat → Int) : Prop := (ghV o.2.1 1 8 = 0 → ∀ k, k < 6 → ghV o.2.1 J (rdFl k) = w k) ∧ (ghV o.2.1 1 8 ≠ 0 → ghV o.2.1 1 9 = w 6)
/-- the two answer alike -/
def rdX (T J : Nat) (a b : mjO) : Prop := ghV a.2.1 1 8 = 0 → ∀ i, i < 4 → ∃ r s, rwGet (J + 17 + i) = some r ∧ rwGet (32 + i) = some s ∧ (rwP T r a.2.1 ↔ rwP T s b.2.1)
def rdXL (T J : Nat) (o : mjO) : Prop := ∀ i, i < 4 → ∀ r, rwGet (J + 17 + i) = some r → rwP T r o.2.1
def rdXR (T : Nat) (b : mjO) : Prop := ∀ i, i < 4 → ∀ s, rwGet (32 + i) = some s → rwP T s b.2.1
def rdY (T J : Nat) (a b : mjO) : Prop := ∃ x : Int32, b.1 = .inl (some (.int x)) ∧ rdV J a x.toInt ∧ rdW J a (rdU b) ∧ rdX T J a b
def rdY0 (J : Nat) (a b : mjO) : Prop := ∃ x : Int32, b.1 = .inl (some (.int x)) ∧ rdV J a x.toInt
theorem ghV_rg {i j : Nat} : -2147483648 ≤ ghV H i j ∧ ghV H i j < 2147483648 := by
  unfold ghV
  split
  · rename_i x _
    exact ⟨Int32.le_toInt x, Int32.toInt_lt x⟩
  · decide
/-- ends of a contract of two that say so -/
def rdPk (J : Nat) (p : pxPt) : Bool := match p.2.2.2.2.2.1 with
  | [.inr (false, n)] => (match sxOl p.1.2.2.2.2.2.1 1 (0, Int.ofNat 8) with
    | some (.inr (false, m)) => (match (match Nat.beq m.1 0 with | true => iEq m.2 0 | false => false) with
      | true => (match sxOl p.1.2.2.2.2.2.1 J (0, Int.ofNat 2) with
          | some (.inr (false, s)) => (match Nat.beq s.1 n.1 with | true => iEq s.2 n.2 | false => false)
          | _ => false)
      | false => match Nat.beq n.1 m.1 with
        | true => (match iEq n.2 (m.2 - 10) with
          | true => (match sxRg (p.1.1, p.1.2.1, p.1.2.2.1, [], p.1.2.2.2.2.2.2.2) m with
            | some r => (match iLe 1 r.1 with | true => iLe r.2 4 | false => false)
            | none => false)
          | false => false)
        | false => false)
    | _ => false)
  | _ => false
theorem rdPk_ok {M M' : sxMo} {cs cs' : Nat × Nat} {v0 v0' : Nat → Nat → Option Value} {q : pxPt} {o o' : mjO} (hJ : J < 579) (h : rdPk J q = true) (h1 : pxEnR sxKw (ghL T V) scr M cs v0 τ q.1 o) (h2 : pxEnR sxKw (ghL T V) scr' M' cs' v0' τ q.2 o') : rdY0 J o o' := by
  obtain ⟨cv, Ha, C, S, rfl, a1, a2, a3, a4, a5⟩ := h1
  obtain ⟨cv', Hb, C', S', rfl, b1, b2, b3, b4, b5⟩ := h2
  have a2 : sxPtR T 579 (sxVw (ghL T V) scr 579 Ha) τ q.1 [] cv.toList := a2
  have b2 : sxPtR T 579 (sxVw (ghL T V) scr' 579 Hb) τ q.2 [] cv'.toList := b2
  obtain ⟨p1, p2, p3, p4, p5, p6, p7, p8⟩ := a2
  obtain ⟨r1, r2, r3, r4, r5, r6, r7, r8⟩ := b2
  have hB : sxBR T τ (q.1.1, q.1.2.1, q.1.2.2.1, [], q.1.2.2.2.2.2.2.2) := ⟨p1, p2, p3, (fun x hx => by cases hx), p8⟩
  unfold rdPk at h
  split at h
  · rename_i n hn
    rw [hn] at r5
    cases cv' with
    | none => exact r5.elim
    | some w =>
      obtain ⟨⟨x, rfl, hx⟩, -⟩ := r5
      split at h
      · rename_i m hm
        have g1 := gOI (by decide) hB p6 hm
        split at h
        · rename_i e1
          have e0 : m.1 = 0 ∧ m.2 = 0 := by
            split at e1
            · rename_i e2
              exact ⟨Nat.eq_of_beq_eq_true e2, iEq_ok e1⟩
            · cases e1
          split at h
          · rename_i s hs
            have g2 := gOI hJ hB p6 hs
            split at h
            · rename_i e3
              have e3 := Nat.eq_of_beq_eq_true e3
              have e4 := iEq_ok h
              obtain ⟨y, y1, y2⟩ := g1
              obtain ⟨z, z1, z2⟩ := g2
              obtain ⟨u, u1, u2⟩ := hx
              rw [e0.1, p1.2] at y1
              cases Option.some.inj y1
              rw [e3, u1] at z1
              cases Option.some.inj z1
              have := e0.2
              exact ⟨x, rfl, Or.inl ⟨show ghV Ha 1 8 = 0 by omega, show x.toInt = ghV Ha J 2 by omega⟩⟩
            · cases h
          · cases h
        · split at h
          · rename_i e1
            have e1 := Nat.eq_of_beq_eq_true e1
            split at h
            · rename_i e2
              have e2 := iEq_ok e2
              split at h
              · rename_i r hr
                split at h
                · rename_i e3
                  have e3 := iLe_ok e3
                  have e4 := iLe_ok h
                  have g3 := sxRg_ok hB hr g1
                  obtain ⟨y, y1, y2⟩ := g1
                  obtain ⟨u, u1, u2⟩ := hx
                  rw [e1, y1] at u1
                  cases Option.some.inj u1
                  exact ⟨x, rfl, Or.inr ⟨show 1 ≤ ghV Ha 1 8 ∧ ghV Ha 1 8 ≤ 4 by omega, show x.toInt = ghV Ha 1 8 - 10 by omega⟩⟩
                · cases h
              · cases h
            · cases h
          · cases h
      · cases h
  · cases h
/-- the same number on both sides -/
def rdSm (p : pxPt) (i j i' j' : Nat) : Bool := match sxOl p.1.2.2.2.2.2.1 i (0, Int.ofNat j) with
  | some (.inr (false, s)) => (match sxOl p.2.2.2.2.2.2.1 i' (0, Int.ofNat j') with
    | some (.inr (false, t)) => sxSame s t
    | _ => false)
  | _ => false
def rdPk2 (J : Nat) (p : pxPt) : Bool := match sxOl p.1.2.2.2.2.2.1 1 (0, Int.ofNat 8) with
  | some (.inr (false, m)) => (match sxSame m (0, 0) with
    | true => (List.range 6).all (fun k => rdSm p J (rdFl k) 82 k)
    | false => match sxRg (p.1.1, p.1.2.1, p.1.2.2.1, [], p.1.2.2.2.2.2.2.2) m with
      | some r => (match iLe 1 r.1 with | true => rdSm p 1 9 78 3 | false => false)
      | none => false)
  | _ => false
theorem rdSm_ok {p : pxPt} {i j i' j' : Nat} {H' : mjH} {σ : List Int} (hi : i < 579) (hi' : i' < 579) (h : rdSm p i j i' j' = true) (h0 : σ[0]? = some 0) (hO : sxOR (sxVw (ghL T V) scr 579 H) σ p.1.2.2.2.2.2.1) (hO' : sxOR (sxVw (ghL T V) scr' 579 H') σ p.2.2.2.2.2.2.1) : ghV H i j = ghV H' i' j' := by
  have hB : sxBR T σ (σ.length, [], [], [], []) := ⟨⟨rfl, h0⟩, (fun x hx => by cases hx), (fun x hx => by cases hx), (fun x hx => by cases hx), fun x hx => by cases hx⟩
  unfold rdSm at h
  split at h
  · rename_i s hs
    split at h
    · rename_i t ht
      have e1 := gOI hi hB hO hs
      have e2 := gOI hi' hB hO' ht
      rw [sxSame_ok h] at e1
      exact sxNR.un e1 e2
    · cases h
  · cases h
theorem rdPk2_ok {M M' : sxMo} {cs cs' : Nat × Nat} {v0 v0' : Nat → Nat → Option Value} {q : pxPt} {o o' : mjO} (hJ : J < 579) (h : rdPk2 J q = true) (h1 : pxEnR sxKw (ghL T V) scr M cs v0 τ q.1 o) (h2 : pxEnR sxKw (ghL T V) scr' M' cs' v0' τ q.2 o') : rdW J o (rdU o') := by
  obtain ⟨cv, Ha, C, S, rfl, a1, a2, a3, a4, a5⟩ := h1
  obtain ⟨cv', Hb, C', S', rfl, b1, b2, b3, b4, b5⟩ := h2
  have a2 : sxPtR T 579 (sxVw (ghL T V) scr 579 Ha) τ q.1 [] cv.toList := a2
  have b2 : sxPtR T 579 (sxVw (ghL T V) scr' 579 Hb) τ q.2 [] cv'.toList := b2
  obtain ⟨p1, p2, p3, p4, p5, p6, p7, p8⟩ := a2
  obtain ⟨r1, r2, r3, r4, r5, r6, r7, r8⟩ := b2
  have hB : sxBR T τ (q.1.1, q.1.2.1, q.1.2.2.1, [], q.1.2.2.2.2.2.2.2) := ⟨p1, p2, p3, (fun x hx => by cases hx), p8⟩
  unfold rdPk2 at h
  split at h
  · rename_i m hm
    have g1 := gOI (by decide) hB p6 hm
    split at h
    · rename_i e
      rw [sxSame_ok e] at g1
      obtain ⟨y, y1, y2⟩ := g1
      dsimp only at y1 y2
      rw [p1.2] at y1
      cases Option.some.inj y1
      refine ⟨fun _ k hk => ?_, fun hf => absurd (show ghV Ha 1 8 = 0 by omega) hf⟩
      have := rdSm_ok hJ (by decide) (List.all_eq_true.mp h k (List.mem_range.mpr hk)) p1.2 p6 r6
      unfold rdU
      rw [if_pos hk]
      exact this
    · split at h
      · rename_i r hr
        split at h
        · rename_i e3
          have e3 := iLe_ok e3
          have g3 := sxRg_ok hB hr g1
          refine ⟨fun hf => absurd (show ghV Ha 1 8 = 0 from hf) (by omega), fun _ => ?_⟩
          have := rdSm_ok (by decide) (by decide) h p1.2 p6 r6
          unfold rdU
          rw [if_neg (by decide)]
          exact this
        · cases h
      · cases h
  · cases h
/-- the same indicators on both sides -/
def rdPk3 (J : Nat) (p : pxPt) : Bool := match sxOl p.1.2.2.2.2.2.1 1 (0, Int.ofNat 8) with
  | some (.inr (false, m)) => (match sxSame m (0, 0) with
    | true => (List.range 4).all (fun i => ((rwGet (J + 17 + i)).isSome && (rwGet (32 + i)).isSome) && rdSm p 579 (J + 17 + i) 579 (32 + i))
    | false => match sxRg (p.1.1, p.1.2.1, p.1.2.2.1, [], p.1.2.2.2.2.2.2.2) m with
      | some r => iLe 1 r.1
      | none => false)
  | _ => false
theorem rdSmG {p : pxPt} {g g' : Nat} {r s : rwR} {H' : mjH} {σ : List Int} (hr : rwGet g = some r) (hs : rwGet g' = some s) (h : rdSm p 579 g 579 g' = true) (h0 : σ[0]? = some 0) (hO : sxOR (sxVw (ghL T V) scr 579 H) σ p.1.2.2.2.2.2.1) (hO' : sxOR (sxVw (ghL T V) scr' 579 H') σ p.2.2.2.2.2.2.1) : rwP T r H ↔ rwP T s H' := by
  have hB : sxBR T σ (σ.length, [], [], [], []) := ⟨⟨rfl, h0⟩, (fun x hx => by cases hx), (fun x hx => by cases hx), (fun x hx => by cases hx), fun x hx => by cases hx⟩
  unfold rdSm at h
  split at h
  · rename_i a ha
    split at h
    · rename_i b hb
      have m1 := rwGet_mem hr
      have m2 := rwGet_mem hs
      rw [← m1.2] at ha
      rw [← m2.2] at hb
      have e1 := rwOlG m1.1 hB hO ha
      have e2 := rwOlG m2.1 hB hO' hb
      rw [sxSame_ok h] at e1
      have e := sxNR.un e1 e2
      constructor
      · intro q
        rw [rwB_1 q] at e
        exact rwB_iff (e.symm.trans rfl)
      · intro q
        rw [rwB_1 q] at e
        exact rwB_iff (e.trans rfl)
    · cases h
  · cases h
theorem rdPk3_ok {M M' : sxMo} {cs cs' : Nat × Nat} {v0 v0' : Nat → Nat → Option Value} {q : pxPt} {o o' : mjO} (hJ : J < 579) (h : rdPk3 J q = true) (h1 : pxEnR sxKw (ghL T V) scr M cs v0 τ q.1 o) (h2 : pxEnR sxKw (ghL T V) scr' M' cs' v0' τ q.2 o') : rdX T J o o' := by
  obtain ⟨cv, Ha, C, S, rfl, a1, a2, a3, a4, a5⟩ := h1
  obtain ⟨cv', Hb, C', S', rfl, b1, b2, b3, b4, b5⟩ := h2
  have a2 : sxPtR T 579 (sxVw (ghL T V) scr 579 Ha) τ q.1 [] cv.toList := a2
  have b2 : sxPtR T 579 (sxVw (ghL T V) scr' 579 Hb) τ q.2 [] cv'.toList := b2
  obtain ⟨p1, p2, p3, p4, p5, p6, p7, p8⟩ := a2
  obtain ⟨r1, r2, r3, r4, r5, r6, r7, r8⟩ := b2
  have hB : sxBR T τ (q.1.1, q.1.2.1, q.1.2.2.1, [], q.1.2.2.2.2.2.2.2) := ⟨p1, p2, p3, (fun x hx => by cases hx), p8⟩
  unfold rdPk3 at h
  split at h
  · rename_i m hm
    have g1 := gOI (by decide) hB p6 hm
    split at h
    · intro _ i hi
      have hb := List.all_eq_true.mp h i (List.mem_range.mpr hi)
      simp only [Bool.and_eq_true] at hb
      obtain ⟨⟨b1, b2⟩, b3⟩ := hb
      obtain ⟨r, hr⟩ := Option.isSome_iff_exists.mp b1
      obtain ⟨s, hs⟩ := Option.isSome_iff_exists.mp b2
      exact ⟨r, s, hr, hs, rdSmG hr hs b3 p1.2 p6 r6⟩
    · split at h
      · rename_i r hr
        have e3 := iLe_ok h
        have g3 := sxRg_ok hB hr g1
        exact fun hf => absurd (show ghV Ha 1 8 = 0 from hf) (by omega)
      · cases h
  · cases h
theorem rdOneX {Ha : mjH} {g : Nat} {r : rwR} (hr : rwGet g = some r) (hp : rwP T r Ha) : sxVw (ghL T V) scr 579 Ha 579 g = some (.int 1) := by
  obtain ⟨h1, h2⟩ := rwGet_mem hr
  rw [gvG, ← h2, ghL_r h1, rwB_1 hp]
/-- the right one stands at its head: its number, how long its tape is -/
def rdR (T : Nat) (H' : mjH) (cl' : mjL) (x y : Int32) : Prop := (mjGet cl' 0 = some (.ref 78) ∧ mjGet cl' 1 = some (.int x) ∧ ∀ q ∈ cl', mjSc 579 q.2 = true) ∧ (x.toInt = tLn T ∧ sxEl H' 78 1 = some (.int y) ∧ (tLn T : Int) ≤ y.toInt ∧ y.toInt ≤ 600) ∧ ghP6 T H'
def rdTp (c : pxCt) : Nat := match sxOl c.2.2.1.2.2.2.2.2.2.1 78 (0, Int.ofNat 1) with
  | some (.inr (_, s)) => s.1
  | _ => 0
def rdB (p : sxPt) : sxB := (p.1 + 2, (p.1, 0, 600) :: (p.1 + 1, 0, 600) :: p.2.1, (1, p.1, 0) :: (p.1, 1, 0) :: (p.1, p.1 + 1, 0) :: (1, p.1 + 1, 0) :: p.2.2.1, [], p.2.2.2.2.2.2.2)
def rdTh (c : pxCt) : List sxN := (List.range c.2.2.1.1.1).map (fun i => match Nat.beq i (rdTp c) with | true => (c.2.2.1.1.1 + 1, 0) | false => (i, 0))
def rdLs (n : Nat) : sxL := [(0, .inl 78), (1, .inr (false, (n, 0)))]
def rdO (n : Nat) : sxO := [(78, (0, 1), .inr (false, (n + 1, 0))), (579, (0, 6), .inr (false, (0, 1)))]
def rdHasF (F : sxF) : Bool := F.any (fun q => Nat.beq q.1 40 && (Nat.beq q.2.2.2.1 1 && iEq q.2.2.2.2 0))
def rdChk (J : Nat) (c : pxCt) : Bool := (pxInc 1 (rdTh c) c.2.2.1 c.2.2.1.1.2.2.2.1 [] c.2.2.1.1.2.2.2.2.2.1 [] (rdLs c.2.2.1.1.1) [] (rdO c.2.2.1.1.1) [] (rdB c.2.2.1.1) && (rdHasF c.2.2.1.1.2.2.2.2.2.2.2 && rdAv c.2.2.1.1)) && (c.2.2.2.2.2.all (fun p => rdPk J p && (rdPk2 J p && rdPk3 J p)) && Nat.blt J 579)
/-- both have ended as the contract says -/
def rdE (gh : sxGh) (scr scr' : Option (List Int32)) (H H' : mjH) (c : pxCt) (a b : mjO) : Prop := ∃ q ∈ c.2.2.2.2.2, ∃ τ', pxEnR sxKw gh scr c.2.2.2.1.1 c.2.2.2.2.1.1 (sxVw gh scr 579 H) τ' q.1 a ∧ pxEnR sxKw gh scr' c.2.2.2.1.2 c.2.2.2.2.1.2 (sxVw gh scr' 579 H') τ' q.2 b
theorem rdMeet {x y : Int32} (hc : pxCtV sxKw (ghL T V) c) (hchk : rdChk J c = true) (hd : c.2.1.1 ≤ d) (hd' : c.2.1.2 ≤ d') (hH : sxHR sxKw H) (hH' : sxHR sxKw H') (hL : sxPtR T 579 (sxVw (ghL T V) scr 579 H) τ c.2.2.1.1 cl []) (hR : rdR T H' cl' x y) :
    mjRn (fun a => mjRn (fun b => rdE (ghL T V) scr scr' H H' c a b ∧ rdY T J a b) scr' [] d' c.1.2 0 cl' [] H' 0 0) scr [] d c.1.1 0 cl [] H 0 0 := by
  unfold rdChk at hchk
  simp only [Bool.and_eq_true] at hchk
  obtain ⟨⟨hinc, hF, hav⟩, hpk, hJ⟩ := hchk
  obtain ⟨⟨r1, r2, r3⟩, ⟨r4, r5, r6, r7⟩, r8⟩ := hR
  obtain ⟨p1, p2, p3, p4, p5, p6, p7, p8⟩ := hL
  have hlen : τ.length = c.2.2.1.1.1 := p1.1
  have up : sxUp τ (τ ++ [x.toInt, y.toInt]) := sxUp.app _ _
  have ex : (τ ++ [x.toInt, y.toInt])[c.2.2.1.1.1]? = some x.toInt := by rw [← hlen, List.getElem?_append_right (Nat.le_refl _), Nat.sub_self]; rfl
  have ey : (τ ++ [x.toInt, y.toInt])[c.2.2.1.1.1 + 1]? = some y.toInt := by rw [← hlen, List.getElem?_append_right (Nat.le_succ _), show τ.length.succ - τ.length = 1 by omega]; rfl
  have e1 : τ[1]? = some (tLn T : Int) := by
    obtain ⟨q, q1, q2⟩ := List.any_eq_true.mp hF
    simp only [Bool.and_eq_true] at q2
    obtain ⟨q3, q4, q5⟩ := q2
    obtain ⟨a, b, z, -, -, ⟨w, w1, w2⟩, z4⟩ := p8 q q1
    rw [Nat.eq_of_beq_eq_true q3] at z4
    rw [Nat.eq_of_beq_eq_true q4] at w1
    have q5 := iEq_ok q5
    have z4 : (tLn T : Int) = z := z4
    rw [w1]
    exact congrArg some (by omega)
  have hle := tLn_le T
  have hB : sxBR T (τ ++ [x.toInt, y.toInt]) (rdB c.2.2.1.1) := by
    refine ⟨⟨by rw [List.length_append, hlen]; rfl, up _ _ p1.2⟩, fun q hq => ?_, fun q hq => ?_, (fun q hq => by cases hq), fun q hq => ?_⟩
    · rcases List.mem_cons.mp hq with rfl | hq
      · exact ⟨_, ex, by dsimp only; omega, by dsimp only; omega⟩
      · rcases List.mem_cons.mp hq with rfl | hq
        · exact ⟨_, ey, by dsimp only; omega, by dsimp only; omega⟩
        · obtain ⟨z, z1, z2⟩ := p2 q hq
          exact ⟨z, up _ _ z1, z2⟩
    · rcases List.mem_cons.mp hq with rfl | hq
      · exact ⟨_, _, up _ _ e1, ex, by dsimp only; omega⟩
      · rcases List.mem_cons.mp hq with rfl | hq
        · exact ⟨_, _, ex, up _ _ e1, by dsimp only; omega⟩
        · rcases List.mem_cons.mp hq with rfl | hq
          · exact ⟨_, _, ex, ey, by dsimp only; omega⟩
          · rcases List.mem_cons.mp hq with rfl | hq
            · exact ⟨_, _, up _ _ e1, ey, by dsimp only; omega⟩
            · obtain ⟨a, b, z1, z2, z3⟩ := p3 q hq
              exact ⟨a, b, up _ _ z1, up _ _ z2, z3⟩
    · obtain ⟨a, b, z, z1, z2, z3, z4⟩ := p8 q hq
      exact ⟨a, b, z, z1.up up, z2.up up, z3.up up, z4⟩
  have hl' : sxLR 579 (τ ++ [x.toInt, y.toInt]) (rdLs c.2.2.1.1.1) cl' := by
    refine ⟨fun i a ha => ?_, r3⟩
    match i, ha with
    | 0, ha => cases ha; exact ⟨_, r1, rfl⟩
    | 1, ha => cases ha; exact ⟨_, r2, x, rfl, _, ex, by dsimp only; omega⟩
    | n + 2, ha => cases ha
  have hO' : sxOR (sxVw (ghL T V) scr' 579 H') (τ ++ [x.toInt, y.toInt]) (rdO c.2.2.1.1.1) := by
    intro q hq
    rcases List.mem_cons.mp hq with rfl | hq
    · exact ⟨1, .int y, ⟨0, up _ _ p1.2, rfl⟩, by decide, (gvE (show (78 : Nat) < 579 by decide)).trans r5, y, rfl, _, ey, by dsimp only; omega⟩
    · cases List.mem_singleton.mp hq
      exact ⟨6, .int 1, ⟨0, up _ _ p1.2, rfl⟩, by decide, gvG.trans (ghB_of r8), 1, rfl, 0, up _ _ p1.2, rfl⟩
  obtain ⟨g1, g2, -⟩ := pxInc_ok (vw := sxVw (ghL T V) scr 579 H) (vw' := sxVw (ghL T V) scr' 579 H') (cl := cl) (cl' := cl') (cs := []) (cs' := []) (n := 579) (n' := 579) hB (p4.up up) (show sxSR _ [] [] from trivial) (p6.up up) (fun q hq => by cases hq) hl' (show sxSR _ [] [] from trivial) hO' (fun q hq => by cases hq) (Nat.lt_succ_self 0) hinc
  exact hc scr scr' (fun a b => rdE (ghL T V) scr scr' H H' c a b ∧ rdY T J a b) d d' _ cl cl' H H' ⟨hd, hd'⟩ hH hH' g1 g2 (fun q hq o o' τ' _ h1 h2 => ⟨⟨q, hq, τ', h1, h2⟩, by
    have hq2 := List.all_eq_true.mp hpk q hq
    rw [Bool.and_eq_true, Bool.and_eq_true] at hq2
    obtain ⟨x, x1, x2⟩ := rdPk_ok (bltOk hJ) hq2.1 h1 h2
    exact ⟨x, x1, x2, rdPk2_ok (bltOk hJ) hq2.2.1 h1 h2, rdPk3_ok (bltOk hJ) hq2.2.2 h1 h2⟩⟩)
/-- a good heap of the left one, and how it ends -/
def rdG (T : Nat) (c : pxCt) (o : mjO) : Prop := ∃ (scr : Option (List Int32)) (d : Nat) (τ : List Int) (cl : mjL) (H : mjH), c.2.1.1 ≤ d ∧ sxHR sxKw H ∧ sxPtR T 579 (sxVw (ghL T v00) scr 579 H) τ c.2.2.1.1 cl [] ∧ mjRn (fun a => a = o) scr [] d c.1.1 0 cl [] H 0 0
def rdOk (cs : List (pxCt × Nat)) (T : Nat) (V : rdVt) : Prop := (∀ q ∈ cs, ∀ o, rdG T q.1 o → rdV q.2 o V.1 ∧ rdW q.2 o V.2.2 ∧ (ghV o.2.1 1 8 = 0 → rdXL T q.2 o)) ∧ ((∃ q ∈ cs, ∃ o, rdG T q.1 o) ↔ V.2.1 = 1) ∧ (V.2.1 = 0 ∨ V.2.1 = 1) ∧ (-2147483648 ≤ V.1 ∧ V.1 < 2147483648) ∧ ∀ k, -2147483648 ≤ V.2.2 k ∧ V.2.2 k < 2147483648
/-- what stands ahead of the left one: the right one stands well too -/
def rdPre (c : pxCt) : sxPt := (c.2.2.1.1.1, c.2.2.1.1.2.1, c.2.2.1.1.2.2.1, c.2.2.1.1.2.2.2.1, c.2.2.1.1.2.2.2.2.1, c.2.2.1.1.2.2.2.2.2.1 ++ [(78, (0, .ofNat 1), .inr (false, (rdTp c, .ofNat 0))), (579, (0, .ofNat 6), .inr (false, (0, .ofNat 1)))], c.2.2.1.1.2.2.2.2.2.2.1, c.2.2.1.1.2.2.2.2.2.2.2)
/-- its tape's symbol -/
def rdTpOk (c : pxCt) : Bool := (c.2.2.1.1.2.1.any (fun q => Nat.beq q.1 (rdTp c) && iLe q.2.2 600)) && (c.2.2.1.1.2.2.1.any (fun q => Nat.beq q.1 1 && (Nat.beq q.2.1 (rdTp c) && iLe q.2.2 0)) && (rdHasF c.2.2.1.1.2.2.2.2.2.2.2 && c.2.2.2.2.2.all (fun q => match q.1.2.2.2.2.1 with | [] => true | _ :: _ => false)))
theorem rdI {z : Int} (h1 : -2147483648 ≤ z) (h2 : z < 2147483648) : (Int32.ofInt z).toInt = z := i32_of h1 h2
/-- a place of the kind of a number -/
def rdKI (i j : Nat) : Bool := match aGet2 sxKw.1 i with
  | some c => (match Nat.blt j c.2.1 with
    | true => (match (match aNth c.2.2.2 j with | some p => some p | none => c.2.2.1) with
      | some (.inr (false, _)) => true
      | _ => false)
    | false => false)
  | none => false
theorem rdInt {i j : Nat} (hH : sxHR sxKw H) (h : (Nat.blt i 579 && rdKI i j) = true) : ∃ x : Int32, sxEl H i j = some (.int x) := by
  rw [Bool.and_eq_true] at h
  obtain ⟨hi, h⟩ := h
  have hi := bltOk hi
  unfold rdKI at h
  split at h
  · rename_i c hc
    split at h
    · rename_i hj
      have hj := bltOk hj
      obtain ⟨e, e1, ⟨e2, e3⟩, e4⟩ := hH.2 i c hc hi
      have hje : j < e.2.length := by rw [← e3]; exact hj
      have hv : e.2[j]? = some e.2[j] := List.getElem?_eq_getElem hje
      obtain ⟨q1, q2⟩ := e4 j _ hv
      have key : ∃ (lo hi : Int), sxPR (.inr (false, lo, hi)) e.2[j] := by
        cases hp : aNth c.2.2.2 j with
        | some p =>
          rw [hp] at h
          dsimp only at h
          split at h
          · rename_i w hw
            cases hw
            exact ⟨_, _, q2 _ hp⟩
          · cases h
        | none =>
          rw [hp] at h
          dsimp only at h
          split at h
          · rename_i w hw
            exact ⟨_, _, q1 _ hw⟩
          · cases h
      obtain ⟨lo, hi, x, hx, -⟩ := key
      refine ⟨x, ?_⟩
      unfold sxEl
      rw [e1]
      dsimp only
      rw [hv, hx]
    · cases h
  · cases h
def rdKB (i j : Nat) (lo hi : Int) : Bool := match aGet2 sxKw.1 i with
  | some c => (match Nat.blt j c.2.1 with
    | true => (match aNth c.2.2.2 j with
      | some (.inr (false, a, b)) => (match iLe lo a with | true => iLe b hi | false => false)
      | _ => false)
    | false => false)
  | none => false
theorem rdKR {i j : Nat} {lo hi : Int} (hH : sxHR sxKw H) (h : (Nat.blt i 579 && rdKB i j lo hi) = true) : lo ≤ ghV H i j ∧ ghV H i j ≤ hi := by
  rw [Bool.and_eq_true] at h
  obtain ⟨hi', h⟩ := h
  have hi' := bltOk hi'
  unfold rdKB at h
  split at h
  · rename_i c hc
    split at h
    · rename_i hj
      have hj := bltOk hj
      obtain ⟨e, e1, ⟨e2, e3⟩, e4⟩ := hH.2 i c hc hi'
      have hje : j < e.2.length := by rw [← e3]; exact hj
      have hv : e.2[j]? = some e.2[j] := List.getElem?_eq_getElem hje
      split at h
      · rename_i a b hab
        obtain ⟨x, x1, x2, x3⟩ := (e4 j _ hv).2 _ hab
        split at h
        · rename_i h1
          have h1 := iLe_ok h1
          have h2 := iLe_ok h
          unfold ghV sxEl
          rw [e1]
          dsimp only
          rw [hv, x1]
          dsimp only
          omega
        · cases h
      · cases h
    · cases h
  · cases h
theorem rdKN {i j : Nat} {lo hi : Int} (hH : sxHR sxKw H) (h : (Nat.blt i 579 && rdKB i j lo hi) = true) : ∃ x : Int32, sxEl H i j = some (.int x) := by
  rw [Bool.and_eq_true] at h
  obtain ⟨hi', h⟩ := h
  have hi' := bltOk hi'
  unfold rdKB at h
  split at h
  · rename_i c hc
    split at h
    · rename_i hj
      have hj := bltOk hj
      obtain ⟨e, e1, ⟨e2, e3⟩, e4⟩ := hH.2 i c hc hi'
      have hje : j < e.2.length := by rw [← e3]; exact hj
      have hv : e.2[j]? = some e.2[j] := List.getElem?_eq_getElem hje
      split at h
      · rename_i a b hab
        obtain ⟨x, x1, x2, x3⟩ := (e4 j _ hv).2 _ hab
        refine ⟨x, ?_⟩
        unfold sxEl
        rw [e1]
        dsimp only
        rw [hv, x1]
      · cases h
    · cases h
  · cases h
/-- how it ends where V is known: fault 0 and V slips, or the fault V and 10; and what else it tells -/
def rdEn1 (n J : Nat) (v : Int) : sxPt := (n + 5, [(n + 0, .ofNat 1, .ofNat 6), (n + 1, .ofNat 0, .ofNat 12), (n + 2, .ofNat 0, .ofNat 5), (n + 3, .ofNat 0, .ofNat 63), (n + 4, .ofNat 0, .ofNat 4)], [], [], [], [(1, (0, .ofNat 8), .inr (false, (0, .ofNat 0))), (J, (0, .ofNat 2), .inr (false, (0, v))), (579, (0, .ofNat 8), .inr (false, (0, .ofNat 1))), (579, (0, .ofNat (J + 17)), .inr (false, (0, .ofNat 1))), (579, (0, .ofNat (J + 18)), .inr (false, (0, .ofNat 1))), (579, (0, .ofNat (J + 19)), .inr (false, (0, .ofNat 1))), (579, (0, .ofNat (J + 20)), .inr (false, (0, .ofNat 1))), (579, (0, .ofNat (J + 35)), .inr (false, (0, .ofNat 1))), (J, (0, .ofNat 0), .inr (false, (n + 0, .ofNat 0))), (579, (0, .ofNat 9), .inr (false, (n + 0, .ofNat 0))), (J, (0, .ofNat 3), .inr (false, (n + 1, .ofNat 0))), (579, (0, .ofNat 11), .inr (false, (n + 1, .ofNat 0))), (J, (0, .ofNat 4), .inr (false, (n + 2, .ofNat 0))), (579, (0, .ofNat 12), .inr (false, (n + 2, .ofNat 0))), (J, (0, .ofNat 5), .inr (false, (n + 3, .ofNat 0))), (579, (0, .ofNat 13), .inr (false, (n + 3, .ofNat 0))), (J, (0, .ofNat 6), .inr (false, (n + 4, .ofNat 0))), (579, (0, .ofNat 14), .inr (false, (n + 4, .ofNat 0)))], [], [])
def rdEn2 (n : Nat) (v : Int) : sxPt := (n + 1, [(n, .negSucc 0, .ofNat 600)], [], [], [], [(1, (0, .ofNat 8), .inr (false, (0, v + 10))), (579, (0, .ofNat 8), .inr (false, (0, .ofNat 1))), (1, (0, .ofNat 9), .inr (false, (n, .ofNat 0))), (579, (0, .ofNat 15), .inr (false, (n, .ofNat 0)))], [], [])
def rdPoC (n J : Nat) (v : Int) : List sxPt := match iLe 0 v with
  | true => [rdEn1 n J v]
  | false => [rdEn2 n v]
def rdKB5 (J : Nat) : Bool := (Nat.blt J 579 && rdKB J 0 1 6) && (Nat.blt J 579 && rdKB J 3 0 12) && (Nat.blt J 579 && rdKB J 4 0 5) && (Nat.blt J 579 && rdKB J 5 0 63) && (Nat.blt J 579 && rdKB J 6 0 4)
def rdCtC (c : pxCt) (J : Nat) (v : Int) : sxCt := (c.1.1, c.2.1.1, rdPre c, c.2.2.2.1.1, rdPoC c.2.2.1.1.1 J v, [], c.2.2.2.2.1.1.1, c.2.2.2.2.1.1.2)
/-- the reader's ends say that LEFT keeps to its JAR -/
def rdOcH (O : sxO) (g : Nat) : Bool := O.any (fun q => Nat.beq q.1 579 && ((match q.2.1.1 with | 0 => iEq q.2.1.2 (Int.ofNat g) | _ + 1 => false) && (match q.2.2 with | .inr (false, m) => sxSame m (0, 1) | _ => false)))
def rdOc (J : Nat) (c : pxCt) : Bool := c.2.2.2.2.2.all (fun q => rdOcH q.1.2.2.2.2.2.1 (J + 35))
theorem rdOcH_ok {O : sxO} {σ : List Int} {g : Nat} (h0 : σ[0]? = some 0) (hO : sxOR (sxVw (ghL T V) scr 579 H) σ O) (h : rdOcH O g = true) : sxVw (ghL T V) scr 579 H 579 g = some (.int 1) := by
  obtain ⟨q, h1, h2⟩ := List.any_eq_true.mp h
  rw [Bool.and_eq_true, Bool.and_eq_true] at h2
  obtain ⟨h2, h3, h4⟩ := h2
  obtain ⟨z, v, z1, z2, z3, z4⟩ := hO q h1
  rw [Nat.eq_of_beq_eq_true h2] at z3
  split at h3
  · rename_i e
    obtain ⟨y, y1, y2⟩ := z1
    rw [e, h0] at y1
    cases Option.some.inj y1
    have h5 := iEq_ok h3
    rw [show z.toNat = g by simp only [Int.ofNat_eq_natCast] at h5; omega] at z3
    rw [z3]
    split at h4
    · rename_i m hm
      rw [hm, sxSame_ok h4] at z4
      obtain ⟨x, rfl, u, u1, u2⟩ := z4
      dsimp only at u1 u2
      rw [h0] at u1
      cases Option.some.inj u1
      rw [show x = 1 from Int32.toInt_inj.mp (by rw [u2]; rfl)]
    · cases h4
  · cases h3
theorem rdReadC {cs : List (pxCt × Nat)} {q : pxCt × Nat} (hq : q ∈ cs) (hcs : pxCtV sxKw (ghL T V) q.1) (hchk : rdChk q.2 q.1 = true) (htp : rdTpOk q.1 = true) (hKJ : (Nat.blt q.2 579 && rdKI q.2 2) = true) (hK5 : rdKB5 q.2 = true) (hKB : (Nat.blt q.2 579 && rdKB q.2 2 0 12) = true) (hoc : rdOc q.2 q.1 = true) {v : Int} (hv : V.1 = v) (hOk : rdOk cs T V) : sxCtV sxKw (ghL T V) (rdCtC q.1 q.2 v) := by
  obtain ⟨c, J⟩ := q
  intro scr Z d τ cl H hd hH hpre hpost _
  have hpre : sxPtR T 579 (sxVw (ghL T V) scr 579 H) τ (rdPre c) cl [] := hpre
  obtain ⟨p1, p2, p3, p4, p5, p6, p7, p8⟩ := hpre
  have hL : sxPtR T 579 (sxVw (ghL T V) scr 579 H) τ c.2.2.1.1 cl [] := ⟨p1, p2, p3, p4, p5, fun x hx => p6 x (List.mem_append_left _ hx), p7, p8⟩
  have hchk2 := hchk
  unfold rdChk at hchk2
  simp only [Bool.and_eq_true] at hchk2
  obtain ⟨⟨-, -, hav⟩, -, hJ⟩ := hchk2
  have hJ : J < 579 := bltOk hJ
  unfold rdTpOk at htp
  simp only [Bool.and_eq_true] at htp
  obtain ⟨ht1, ht2, ht3, ht4⟩ := htp
  obtain ⟨a6, a1, a2, a3, a4, a5⟩ := p6 (579, (0, .ofNat 6), .inr (false, (0, .ofNat 1))) (List.mem_append_right _ (List.mem_cons_of_mem _ List.mem_cons_self))
  obtain ⟨b6, b1, b2, b3, b4, y, rfl, b5⟩ := p6 (78, (0, .ofNat 1), .inr (false, (rdTp c, .ofNat 0))) (List.mem_append_right _ List.mem_cons_self)
  obtain ⟨z0, z1, z2⟩ := a2
  dsimp only at z1 z2
  rw [p1.2] at z1
  cases Option.some.inj z1
  obtain ⟨w0, w1, w2⟩ := b2
  dsimp only at w1 w2
  rw [p1.2] at w1
  cases Option.some.inj w1
  have h6 : ghP6 T H := by
    have a4 : sxVw (ghL T V) scr 579 H 579 a6.toNat = some a1 := a4
    rw [show a6.toNat = 6 by simp only [Int.ofNat_eq_natCast] at z2; omega, gvG] at a4
    exact (ghB_iff (p := ghP6 T H) a4).1
  have h78 : sxEl H 78 1 = some (.int y) := by
    have b4 : sxVw (ghL T V) scr 579 H 78 b6.toNat = some (.int y) := b4
    rw [show b6.toNat = 1 by simp only [Int.ofNat_eq_natCast] at w2; omega, gvE (by decide)] at b4
    exact b4
  have e1 : τ[1]? = some (tLn T : Int) := by
    obtain ⟨q, q1, q2⟩ := List.any_eq_true.mp ht3
    simp only [Bool.and_eq_true] at q2
    obtain ⟨q3, q4, q5⟩ := q2
    obtain ⟨a, b, z, -, -, ⟨w, w1, w2⟩, z4⟩ := p8 q q1
    rw [Nat.eq_of_beq_eq_true q3] at z4
    rw [Nat.eq_of_beq_eq_true q4] at w1
    have q5 := iEq_ok q5
    have z4 : (tLn T : Int) = z := z4
    rw [w1]
    exact congrArg some (by omega)
  obtain ⟨u, u1, u2⟩ := b5
  have hy1 : y.toInt ≤ 600 := by
    obtain ⟨q, q1, q2⟩ := List.any_eq_true.mp ht1
    rw [Bool.and_eq_true] at q2
    obtain ⟨z, g1, g2, g3⟩ := p2 q q1
    rw [Nat.eq_of_beq_eq_true q2.1] at g1
    have u1 : τ[rdTp c]? = some u := u1
    rw [u1] at g1
    cases Option.some.inj g1
    have := iLe_ok q2.2
    have u2 : y.toInt = u + 0 := u2
    omega
  have hy2 : (tLn T : Int) ≤ y.toInt := by
    obtain ⟨q, q1, q2⟩ := List.any_eq_true.mp ht2
    simp only [Bool.and_eq_true] at q2
    obtain ⟨k1, k2, k3⟩ := q2
    obtain ⟨a, b, g1, g2, g3⟩ := p3 q q1
    rw [Nat.eq_of_beq_eq_true k1, e1] at g1
    rw [Nat.eq_of_beq_eq_true k2] at g2
    have u1 : τ[rdTp c]? = some u := u1
    rw [u1] at g2
    cases Option.some.inj g1
    cases Option.some.inj g2
    have := iLe_ok k3
    have u2 : y.toInt = u + 0 := u2
    omega
  have hle := tLn_le T
  have hm := rdMeet (scr' := none) (d' := c.2.1.2) (cl' := [(1, .int (Int32.ofInt (tLn T))), (0, .ref 78)]) (x := Int32.ofInt (tLn T)) (y := y) hcs hchk hd (Nat.le_refl _) hH hH hL
    ⟨⟨rfl, rfl, fun q hq => by
      rcases List.mem_cons.mp hq with rfl | hq
      · rfl
      · cases List.mem_singleton.mp hq
        decide⟩, ⟨rdI (by omega) (by omega), h78, hy2, hy1⟩, h6⟩
  obtain ⟨r, hr, hb⟩ := mjRn_ex hm
  obtain ⟨b, ⟨pp, hp, τ', ⟨cv, Ha, C, S, er, g2, g3, g4, g5, g6⟩, -⟩, -, -, -, -, hx4⟩ := mjRn_some hb
  have hG : rdG T c r := ⟨scr, d, τ, cl, H, hd, hH, rdTo hav hL, hr⟩
  have hV := hOk.1 _ hq r hG
  have hf := hOk.2.1.mp ⟨_, hq, r, hG⟩
  refine mjRn_mo (fun x hx => ?_) hr
  subst hx
  subst er
  have hcv : cv = none := by
    have g3 : sxPtR T 579 (sxVw (ghL T V) scr 579 Ha) τ' pp.1 [] cv.toList := g3
    have h5 := g3.2.2.2.2.1
    have h4 := List.all_eq_true.mp ht4 pp hp
    cases hst : pp.1.2.2.2.2.1 with
    | nil =>
      rw [hst] at h5
      cases cv with
      | none => rfl
      | some w => exact h5.elim
    | cons a as =>
      rw [hst] at h4
      cases h4
  subst hcv
  obtain ⟨hV, hW, hXl⟩ := hV
  have v8 : sxVw (ghL T V) scr 579 Ha 579 8 = some (.int (Int32.ofInt V.2.1)) := gvG
  have v9 : ∀ k, k < 10 → sxVw (ghL T V) scr 579 Ha 579 (9 + k) = some (.int (Int32.ofInt (V.2.2 k))) := fun k hk => by
    rw [gvG, show 9 + k = (k + 2) + 7 by omega]
    refine Eq.trans (ghX_lt (show k + 2 < 13 by omega)) ?_
    unfold ghT
    rw [if_neg (by omega), if_neg (by omega), if_neg (by omega), if_pos (by omega), show k + 2 - 2 = k by omega]
  have r9 : ∀ k, (Int32.ofInt (V.2.2 k)).toInt = V.2.2 k := fun k => rdI (hOk.2.2.2.2 k).1 (hOk.2.2.2.2 k).2
  have el : ∀ {i j : Nat} {z : Int}, ghV Ha i j = z → (∃ x : Int32, sxEl Ha i j = some (.int x)) → ∃ x : Int32, sxEl Ha i j = some (.int x) ∧ x.toInt = z := fun {i j z} h1 ⟨x, h2⟩ => ⟨x, h2, by unfold ghV at h1; rw [h2] at h1; exact h1⟩
  have o35 : sxVw (ghL T V) scr 579 Ha 579 (J + 35) = some (.int 1) := by
    have g3 : sxPtR T 579 (sxVw (ghL T V) scr 579 Ha) τ' pp.1 [] [] := g3
    exact rdOcH_ok g3.1.2 g3.2.2.2.2.2.1 (List.all_eq_true.mp hoc pp hp)
  have i8 : ∃ x : Int32, sxEl Ha 1 8 = some (.int x) := rdInt g2 (by decide +kernel)
  have iJ : ∃ x : Int32, sxEl Ha J 2 = some (.int x) := rdInt g2 hKJ
  have hlen : τ.length = c.2.2.1.1.1 := p1.1
  rcases hV with ⟨f0, fz⟩ | ⟨⟨f1, f2⟩, fz⟩
  · have kk : 0 ≤ ghV Ha J 2 := (rdKR g2 hKB).1
    have fz : V.1 = ghV Ha J 2 := fz
    have f0 : ghV Ha 1 8 = 0 := f0
    have hW := hW.1 f0
    have hone : ∀ i, i < 4 → sxVw (ghL T V) scr 579 Ha 579 (J + 17 + i) = some (.int 1) := fun i hi => by
      obtain ⟨r, s, k1, -, -⟩ := hx4 f0 i hi
      exact rdOneX k1 (hXl f0 i hi r k1)
    have hin : rdEn1 c.2.2.1.1.1 J v ∈ rdPoC c.2.2.1.1.1 J v := by
      unfold rdPoC
      rw [iLe_iff.mpr (show 0 ≤ v by omega)]
      exact List.mem_cons_self
    have hK5 : rdKB5 J = true := hK5
    unfold rdKB5 at hK5
    simp only [Bool.and_assoc, Bool.and_eq_true] at hK5
    obtain ⟨a0, b0, a2, b2, a3, b3, a4, b4, a5, b5⟩ := hK5
    have w0 : ghV Ha J 0 = V.2.2 0 := hW 0 (by decide)
    have q0 := rdKR g2 (show (Nat.blt J 579 && rdKB J 0 1 6) = true by rw [a0, b0]; rfl)
    have n0 : ∃ x : Int32, sxEl Ha J 0 = some (.int x) := rdKN g2 (show (Nat.blt J 579 && rdKB J 0 1 6) = true by rw [a0, b0]; rfl)
    have w2 : ghV Ha J 3 = V.2.2 2 := hW 2 (by decide)
    have q2 := rdKR g2 (show (Nat.blt J 579 && rdKB J 3 0 12) = true by rw [a2, b2]; rfl)
    have n2 : ∃ x : Int32, sxEl Ha J 3 = some (.int x) := rdKN g2 (show (Nat.blt J 579 && rdKB J 3 0 12) = true by rw [a2, b2]; rfl)
    have w3 : ghV Ha J 4 = V.2.2 3 := hW 3 (by decide)
    have q3 := rdKR g2 (show (Nat.blt J 579 && rdKB J 4 0 5) = true by rw [a3, b3]; rfl)
    have n3 : ∃ x : Int32, sxEl Ha J 4 = some (.int x) := rdKN g2 (show (Nat.blt J 579 && rdKB J 4 0 5) = true by rw [a3, b3]; rfl)
    have w4 : ghV Ha J 5 = V.2.2 4 := hW 4 (by decide)
    have q4 := rdKR g2 (show (Nat.blt J 579 && rdKB J 5 0 63) = true by rw [a4, b4]; rfl)
    have n4 : ∃ x : Int32, sxEl Ha J 5 = some (.int x) := rdKN g2 (show (Nat.blt J 579 && rdKB J 5 0 63) = true by rw [a4, b4]; rfl)
    have w5 : ghV Ha J 6 = V.2.2 5 := hW 5 (by decide)
    have q5 := rdKR g2 (show (Nat.blt J 579 && rdKB J 6 0 4) = true by rw [a5, b5]; rfl)
    have n5 : ∃ x : Int32, sxEl Ha J 6 = some (.int x) := rdKN g2 (show (Nat.blt J 579 && rdKB J 6 0 4) = true by rw [a5, b5]; rfl)
    have up : sxUp τ (τ ++ [V.2.2 0, V.2.2 2, V.2.2 3, V.2.2 4, V.2.2 5]) := sxUp.app _ _
    have z8 : ∀ n : Nat, sxNR (τ ++ [V.2.2 0, V.2.2 2, V.2.2 3, V.2.2 4, V.2.2 5]) (0, .ofNat n) n := fun n => ⟨0, up _ _ p1.2, by simp⟩
    have e0 : (τ ++ [V.2.2 0, V.2.2 2, V.2.2 3, V.2.2 4, V.2.2 5])[c.2.2.1.1.1 + 0]? = some (V.2.2 0) := by rw [← hlen, List.getElem?_append_right (by omega), show τ.length + 0 - τ.length = 0 by omega]; rfl
    have e2 : (τ ++ [V.2.2 0, V.2.2 2, V.2.2 3, V.2.2 4, V.2.2 5])[c.2.2.1.1.1 + 1]? = some (V.2.2 2) := by rw [← hlen, List.getElem?_append_right (by omega), show τ.length + 1 - τ.length = 1 by omega]; rfl
    have e3 : (τ ++ [V.2.2 0, V.2.2 2, V.2.2 3, V.2.2 4, V.2.2 5])[c.2.2.1.1.1 + 2]? = some (V.2.2 3) := by rw [← hlen, List.getElem?_append_right (by omega), show τ.length + 2 - τ.length = 2 by omega]; rfl
    have e4 : (τ ++ [V.2.2 0, V.2.2 2, V.2.2 3, V.2.2 4, V.2.2 5])[c.2.2.1.1.1 + 3]? = some (V.2.2 4) := by rw [← hlen, List.getElem?_append_right (by omega), show τ.length + 3 - τ.length = 3 by omega]; rfl
    have e5 : (τ ++ [V.2.2 0, V.2.2 2, V.2.2 3, V.2.2 4, V.2.2 5])[c.2.2.1.1.1 + 4]? = some (V.2.2 5) := by rw [← hlen, List.getElem?_append_right (by omega), show τ.length + 4 - τ.length = 4 by omega]; rfl
    refine hpost none Ha C S (τ ++ [V.2.2 0, V.2.2 2, V.2.2 3, V.2.2 4, V.2.2 5]) _ hin up g2 ⟨⟨by rw [List.length_append, hlen]; rfl, up _ _ p1.2⟩, fun x hx => ?_, (fun x hx => (by cases hx)), ⟨fun i a ha => (by cases ha), fun x hx => (by cases hx)⟩, trivial, fun x hx => ?_, (fun x hx => (by cases hx)), (fun x hx => (by cases hx))⟩ g4 g5 g6
    · simp only [rdEn1, List.mem_cons, List.not_mem_nil, or_false] at hx
      rcases hx with rfl | rfl | rfl | rfl | rfl
      · exact ⟨_, e0, by dsimp only; simp only [Int.ofNat_eq_natCast]; omega, by dsimp only; simp only [Int.ofNat_eq_natCast]; omega⟩
      · exact ⟨_, e2, by dsimp only; simp only [Int.ofNat_eq_natCast]; omega, by dsimp only; simp only [Int.ofNat_eq_natCast]; omega⟩
      · exact ⟨_, e3, by dsimp only; simp only [Int.ofNat_eq_natCast]; omega, by dsimp only; simp only [Int.ofNat_eq_natCast]; omega⟩
      · exact ⟨_, e4, by dsimp only; simp only [Int.ofNat_eq_natCast]; omega, by dsimp only; simp only [Int.ofNat_eq_natCast]; omega⟩
      · exact ⟨_, e5, by dsimp only; simp only [Int.ofNat_eq_natCast]; omega, by dsimp only; simp only [Int.ofNat_eq_natCast]; omega⟩
    · obtain ⟨x8, e8, t8⟩ := el f0 i8
      obtain ⟨xJ, eJ, tJ⟩ := el fz.symm iJ
      obtain ⟨x0', y0, t0⟩ := el w0 n0
      obtain ⟨x2', y2, t2⟩ := el w2 n2
      obtain ⟨x3', y3, t3⟩ := el w3 n3
      obtain ⟨x4', y4, t4⟩ := el w4 n4
      obtain ⟨x5', y5, t5⟩ := el w5 n5
      simp only [rdEn1, List.mem_cons, List.not_mem_nil, or_false] at hx
      rcases hx with rfl | rfl | rfl | rfl | rfl | rfl | rfl | rfl | rfl | rfl | rfl | rfl | rfl | rfl | rfl | rfl | rfl | rfl
      · exact ⟨8, _, z8 8, by decide, (gvE (show (1 : Nat) < 579 by decide)).trans e8, x8, rfl, 0, up _ _ p1.2, by rw [t8]; rfl⟩
      · exact ⟨2, _, z8 2, by decide, (gvE hJ).trans eJ, xJ, rfl, 0, up _ _ p1.2, by rw [tJ, hv]; simp⟩
      · exact ⟨8, _, z8 8, by decide, v8, _, rfl, 0, up _ _ p1.2, by rw [hf]; rfl⟩
      · exact ⟨((J + 17 : Nat) : Int), _, z8 (J + 17), Int.natCast_nonneg _, hone 0 (by decide), 1, rfl, 0, up _ _ p1.2, rfl⟩
      · exact ⟨((J + 18 : Nat) : Int), _, z8 (J + 18), Int.natCast_nonneg _, hone 1 (by decide), 1, rfl, 0, up _ _ p1.2, rfl⟩
      · exact ⟨((J + 19 : Nat) : Int), _, z8 (J + 19), Int.natCast_nonneg _, hone 2 (by decide), 1, rfl, 0, up _ _ p1.2, rfl⟩
      · exact ⟨((J + 20 : Nat) : Int), _, z8 (J + 20), Int.natCast_nonneg _, hone 3 (by decide), 1, rfl, 0, up _ _ p1.2, rfl⟩
      · exact ⟨((J + 35 : Nat) : Int), _, z8 (J + 35), Int.natCast_nonneg _, o35, 1, rfl, 0, up _ _ p1.2, rfl⟩
      · exact ⟨0, _, z8 0, by decide, (gvE hJ).trans y0, x0', rfl, _, e0, by rw [t0]; simp⟩
      · exact ⟨9, _, z8 9, by decide, v9 0 (by decide), _, rfl, _, e0, by rw [r9]; simp⟩
      · exact ⟨3, _, z8 3, by decide, (gvE hJ).trans y2, x2', rfl, _, e2, by rw [t2]; simp⟩
      · exact ⟨11, _, z8 11, by decide, v9 2 (by decide), _, rfl, _, e2, by rw [r9]; simp⟩
      · exact ⟨4, _, z8 4, by decide, (gvE hJ).trans y3, x3', rfl, _, e3, by rw [t3]; simp⟩
      · exact ⟨12, _, z8 12, by decide, v9 3 (by decide), _, rfl, _, e3, by rw [r9]; simp⟩
      · exact ⟨5, _, z8 5, by decide, (gvE hJ).trans y4, x4', rfl, _, e4, by rw [t4]; simp⟩
      · exact ⟨13, _, z8 13, by decide, v9 4 (by decide), _, rfl, _, e4, by rw [r9]; simp⟩
      · exact ⟨6, _, z8 6, by decide, (gvE hJ).trans y5, x5', rfl, _, e5, by rw [t5]; simp⟩
      · exact ⟨14, _, z8 14, by decide, v9 5 (by decide), _, rfl, _, e5, by rw [r9]; simp⟩
  · have fz : V.1 = ghV Ha 1 8 - 10 := fz
    have f1 : 1 ≤ ghV Ha 1 8 := f1
    have hW : ghV Ha 1 9 = V.2.2 6 := hW.2 (show ghV Ha 1 8 ≠ 0 by omega)
    have hin : rdEn2 c.2.2.1.1.1 v ∈ rdPoC c.2.2.1.1.1 J v := by
      unfold rdPoC
      cases e : iLe 0 v with
      | true =>
        have := iLe_ok e
        have f2 : ghV Ha 1 8 ≤ 4 := f2
        omega
      | false => exact List.mem_cons_self
    have up : sxUp τ (τ ++ [V.2.2 6]) := sxUp.app _ _
    have z8 : ∀ n : Nat, sxNR (τ ++ [V.2.2 6]) (0, .ofNat n) n := fun n => ⟨0, up _ _ p1.2, by simp⟩
    have e6 : (τ ++ [V.2.2 6])[c.2.2.1.1.1]? = some (V.2.2 6) := by rw [← hlen, List.getElem?_append_right (Nat.le_refl _), Nat.sub_self]; rfl
    have n9 : ∃ x : Int32, sxEl Ha 1 9 = some (.int x) := rdInt g2 (by decide +kernel)
    have q9 := rdKR g2 (show (Nat.blt 1 579 && rdKB 1 9 (-1) 600) = true by decide +kernel)
    refine hpost none Ha C S (τ ++ [V.2.2 6]) _ hin up g2 ⟨⟨by rw [List.length_append, hlen]; rfl, up _ _ p1.2⟩, fun x hx => ?_, (fun x hx => (by cases hx)), ⟨fun i a ha => (by cases ha), fun x hx => (by cases hx)⟩, trivial, fun x hx => ?_, (fun x hx => (by cases hx)), (fun x hx => (by cases hx))⟩ g4 g5 g6
    · cases List.mem_singleton.mp hx
      exact ⟨_, e6, by dsimp only; simp only [Int.negSucc_eq]; omega, by dsimp only; simp only [Int.ofNat_eq_natCast]; omega⟩
    · obtain ⟨x8, e8, t8⟩ := el (z := V.1 + 10) (i := 1) (j := 8) (by omega) i8
      obtain ⟨x9, e9, t9⟩ := el hW n9
      simp only [rdEn2, List.mem_cons, List.not_mem_nil, or_false] at hx
      rcases hx with rfl | rfl | rfl | rfl
      · exact ⟨8, _, z8 8, by decide, (gvE (show (1 : Nat) < 579 by decide)).trans e8, x8, rfl, 0, up _ _ p1.2, by rw [t8, hv]; simp⟩
      · exact ⟨8, _, z8 8, by decide, v8, _, rfl, 0, up _ _ p1.2, by rw [hf]; rfl⟩
      · exact ⟨9, _, z8 9, by decide, (gvE (show (1 : Nat) < 579 by decide)).trans e9, x9, rfl, _, e6, by rw [t9]; simp⟩
      · exact ⟨15, _, z8 15, by decide, v9 6 (by decide), _, rfl, _, e6, by rw [r9]; simp⟩
/-- it covers all of them -/
def rdCov (k n : Nat) (M : sxMo) (C S : Nat) (c : pxCt) : Bool := Nat.beq c.1.2 k && (Nat.ble c.2.1.2 n && (sxMsb c.2.2.2.1.2 M && (Nat.ble c.2.2.2.2.1.2.1 C && Nat.ble c.2.2.2.2.1.2.2 S)))
theorem rdJarV {cs : List (pxCt × Nat)} {k n C S : Nat} {M : sxMo} {x y : Int32} (hcs : ∀ q ∈ cs, pxCtV sxKw (ghL T V) q.1 ∧ rdChk q.2 q.1 = true ∧ rdCov k n M C S q.1 = true) (hK : ∀ q ∈ cs, (Nat.blt q.2 579 && rdKB q.2 2 0 12) = true) (hOk : rdOk cs T V) (hf : V.2.1 = 1) (hd : n ≤ d) (hH : sxHR sxKw H) (hR : rdR T H cl x y) : mjRn (fun b => (∃ xx : Int32, b.1 = .inl (some (.int xx)) ∧ xx.toInt = V.1) ∧ (0 ≤ V.1 → ∀ k, k < 6 → ghV b.2.1 82 k = V.2.2 k) ∧ (V.1 < 0 → ghV b.2.1 78 3 = V.2.2 6) ∧ (0 ≤ V.1 → rdXR T b)) scr [] d k 0 cl [] H 0 0 := by
  obtain ⟨q, hq, o, scr0, d0, τ0, cl0, H0, g1, g2, g3, g4⟩ := hOk.2.1.mpr hf
  obtain ⟨hc, hchk, hcov⟩ := hcs q hq
  unfold rdCov at hcov
  simp only [Bool.and_eq_true] at hcov
  obtain ⟨k1, k2, -⟩ := hcov
  have k1 := Nat.eq_of_beq_eq_true k1
  have k2 := Nat.le_of_ble_eq_true k2
  have hav : rdAv q.1.2.2.1.1 = true := by
    unfold rdChk at hchk
    simp only [Bool.and_eq_true] at hchk
    exact hchk.1.2.2
  have hm := rdMeet (V := V) (scr' := scr) (d' := d) (cl' := cl) (H' := H) hc hchk g1 (Nat.le_trans k2 hd) g2 hH (rdTo hav g3) hR
  obtain ⟨r, hr1, hr2⟩ := mjRn_some (mjRn_and hm g4)
  subst hr2
  have hV := hOk.1 q hq r ⟨scr0, d0, τ0, cl0, H0, g1, g2, g3, g4⟩
  have hr1 : mjRn (fun b => rdE (ghL T V) scr0 scr H0 H q.1 r b ∧ rdY T q.2 r b) scr [] d q.1.1.2 0 cl [] H 0 0 := hr1
  rw [k1] at hr1
  refine mjRn_mo (fun b hb => ?_) hr1
  obtain ⟨⟨pp, hp, τ', ⟨cv, Ha, C1, S1, er, l2, -⟩, -⟩, xx, e1, e2, e3, e4⟩ := hb
  subst er
  refine ⟨⟨xx, e1, rdV_un e2 hV.1⟩, fun h0 k hk => ?_, fun h0 => ?_, fun h0 => ?_⟩
  · rcases hV.1 with ⟨a, _⟩ | ⟨⟨a, a'⟩, z⟩
    · have g1 := e3.1 a k hk
      have g2 := hV.2.1.1 a k hk
      unfold rdU at g1
      rw [if_pos hk] at g1
      rw [← g1, g2]
    · omega
  · rcases hV.1 with ⟨a, z⟩ | ⟨⟨a, a'⟩, z⟩
    · exfalso
      have z : V.1 = ghV Ha q.2 2 := z
      have := (rdKR l2 (hK _ hq)).1
      omega
    · have g1 := e3.2 (by omega)
      have g2 := hV.2.1.2 (by omega)
      unfold rdU at g1
      rw [if_neg (by decide)] at g1
      rw [← g1, g2]
  · rcases hV.1 with ⟨a, z⟩ | ⟨⟨a, a'⟩, z⟩
    · intro i hi s hs
      obtain ⟨r', s', k3, k4, k5⟩ := e4 a i hi
      cases Option.some.inj (k4.symm.trans hs)
      exact k5.mp (hV.2.2 a i hi r' k3)
    · omega
/-- an end's answer is this number -/
def rdPd (st : List sxV) (v : Int) : sxD := match st with
  | [.inr (false, s)] => iFc (v - s.2) fun z => [(s.1, z, z)]
  | _ => []
theorem rdPd_ok {σ : List Int} {st : List sxV} {v : Int} {x : Int32} (h : sxSR σ st [.int x]) (hv : x.toInt = v) : ∀ q ∈ rdPd st v, sxIn σ q := by
  intro q hq
  unfold rdPd at hq
  split at hq
  · rename_i s
    rw [iFc_eq] at hq
    cases List.mem_singleton.mp hq
    obtain ⟨y, e, z, h1, h2⟩ := h.1
    cases Value.int.inj e
    exact ⟨z, h1, by dsimp only; omega, by dsimp only; omega⟩
  · cases hq
/-- the symbol of one of the numbers more -/
def rdGs (c : sxCt) (g : Nat) : Nat := match sxOl c.2.2.1.2.2.2.2.2.1 579 (0, Int.ofNat g) with
  | some (.inr (_, s)) => s.1
  | _ => 0
def rdGk (c : sxCt) (g : Nat) : Bool := match sxOl c.2.2.1.2.2.2.2.2.1 579 (0, Int.ofNat g) with
  | some (.inr (false, s)) => iEq s.2 0
  | _ => false
theorem rdGa {c : sxCt} {k : Nat} (h0 : τ[0]? = some 0) (hO : sxOR (sxVw (ghL T V) scr 579 H) τ c.2.2.1.2.2.2.2.2.1) (hk : rdGk c (9 + k) = true) (hk10 : k < 10) (hr : (Int32.ofInt (V.2.2 k)).toInt = V.2.2 k) : sxNR τ (rdGs c (9 + k), 0) (V.2.2 k) := by
  have hB : sxBR T τ (τ.length, [], [], [], []) := ⟨⟨rfl, h0⟩, (fun x hx => by cases hx), (fun x hx => by cases hx), (fun x hx => by cases hx), fun x hx => by cases hx⟩
  unfold rdGk at hk
  split at hk
  · rename_i s hs
    obtain ⟨v, h1, y, rfl, h2⟩ := gOl hB hO hs
    rw [gvG, show 9 + k = (k + 2) + 7 by omega] at h1
    have h1 : ghT T V (k + 2) = some (.int y) := (ghX_lt (show k + 2 < 13 by omega)).symm.trans h1
    unfold ghT at h1
    rw [if_neg (by omega), if_neg (by omega), if_neg (by omega), if_pos (by omega), show k + 2 - 2 = k by omega] at h1
    cases Value.int.inj (Option.some.inj h1)
    rw [hr] at h2
    unfold rdGs
    rw [hs]
    have e := iEq_ok hk
    obtain ⟨a, b⟩ := s
    cases (show b = 0 from e)
    exact h2
  · cases hk
def rdJo (c : sxCt) (v : Int) : sxO := match iLe 0 v with
  | true => [(82, (0, .ofNat 0), .inr (false, (rdGs c 9, 0))), (82, (0, .ofNat 2), .inr (false, (rdGs c 11, 0))), (82, (0, .ofNat 3), .inr (false, (rdGs c 12, 0))), (82, (0, .ofNat 4), .inr (false, (rdGs c 13, 0))), (82, (0, .ofNat 5), .inr (false, (rdGs c 14, 0))), (579, (0, .ofNat 32), .inr (false, (0, .ofNat 1))), (579, (0, .ofNat 33), .inr (false, (0, .ofNat 1))), (579, (0, .ofNat 34), .inr (false, (0, .ofNat 1))), (579, (0, .ofNat 35), .inr (false, (0, .ofNat 1)))]
  | false => [(78, (0, .ofNat 3), .inr (false, (rdGs c 15, 0)))]
/-- the reference's jar, by the contract that says how it goes on, and by V what it answers and tells -/
def rdJ2 (c : sxCt) (n a : Nat) (v : Int) : sxCt := (c.1, Nat.max n c.2.1, (c.2.2.1.1, c.2.2.1.2.1, c.2.2.1.2.2.1, c.2.2.1.2.2.2.1, c.2.2.1.2.2.2.2.1, c.2.2.1.2.2.2.2.2.1 ++ [(579, (0, .ofNat 6), .inr (false, (0, .ofNat 1))), (579, (0, .ofNat 8), .inr (false, (0, .ofNat 1)))], c.2.2.1.2.2.2.2.2.2.1, c.2.2.1.2.2.2.2.2.2.2 ++ [(40, (0, .ofNat 0), (0, .ofNat 0), (a, .ofNat 0))]), c.2.2.2.1,
  c.2.2.2.2.1.map (fun p => (p.1, rdPd p.2.2.2.2.1 v ++ p.2.1, p.2.2.1, p.2.2.2.1, [.inr (false, (0, v))], rdJo c v ++ p.2.2.2.2.2.1, p.2.2.2.2.2.2.1, p.2.2.2.2.2.2.2)), [], c.2.2.2.2.2.2.1, c.2.2.2.2.2.2.2)
def rdGks (c : sxCt) : Bool := rdGk c 9 && rdGk c 11 && rdGk c 12 && rdGk c 13 && rdGk c 14 && rdGk c 15
def rdJ2k (c : sxCt) (a t : Nat) : Bool := ((match sxGt c.2.2.1.2.2.2.1 0 with | some (.inl m) => Nat.beq m 78 | _ => false) && (match sxGt c.2.2.1.2.2.2.1 1 with | some (.inr (false, m)) => (Nat.beq m.1 a && iEq m.2 0) | _ => false)) &&
  ((match sxOl c.2.2.1.2.2.2.2.2.1 78 (0, Int.ofNat 1) with | some (.inr (false, m)) => (Nat.beq m.1 t && iEq m.2 0) | _ => false) && ((c.2.2.1.2.2.1.any (fun q => Nat.beq q.1 a && (Nat.beq q.2.1 t && iLe q.2.2 0))) && ((c.2.2.1.2.1.any (fun q => Nat.beq q.1 t && iLe q.2.2 600)) && (match c.2.2.2.2.2.1 with | [] => true | _ :: _ => false))))
theorem rdJar2 {cs : List (pxCt × Nat)} {k n C S a t : Nat} {M : sxMo} {c : sxCt} {v : Int} (h1 : sxCtV sxKw (ghL T V) c) (hk : c.1 = k) (hchk2 : rdJ2k c a t = true) (hgk : rdGks c = true) (hK : ∀ q ∈ cs, (Nat.blt q.2 579 && rdKB q.2 2 0 12) = true) (hcs : ∀ q ∈ cs, pxCtV sxKw (ghL T V) q.1 ∧ rdChk q.2 q.1 = true ∧ rdCov k n M C S q.1 = true) (hOk : rdOk cs T V) (hv : V.1 = v) : sxCtV sxKw (ghL T V) (rdJ2 c n a v) := by
  intro scr Z d τ cl H hd hH hpre hpost _
  have hd : Nat.max n c.2.1 ≤ d := hd
  have hd1 : n ≤ d := Nat.le_trans (Nat.le_max_left _ _) hd
  have hd2 : c.2.1 ≤ d := Nat.le_trans (Nat.le_max_right _ _) hd
  have hpre : sxPtR T 579 (sxVw (ghL T V) scr 579 H) τ (rdJ2 c n a v).2.2.1 cl [] := hpre
  obtain ⟨p1, p2, p3, p4, p5, p6, p7, p8⟩ := hpre
  have hP1 : sxPtR T 579 (sxVw (ghL T V) scr 579 H) τ c.2.2.1 cl [] := ⟨p1, p2, p3, p4, p5, fun x hx => p6 x (List.mem_append_left _ hx), p7, fun x hx => p8 x (List.mem_append_left _ hx)⟩
  unfold rdJ2k at hchk2
  simp only [Bool.and_eq_true] at hchk2
  obtain ⟨⟨c1, c2⟩, c3, c4, c5, c6⟩ := hchk2
  have num : ∀ {j : Nat}, (579, (0, Int.ofNat j), (Sum.inr (false, (0, .ofNat 1)) : sxV)) ∈ (rdJ2 c n a v).2.2.1.2.2.2.2.2.1 → ∃ w : Int32, ghL T V H j = some (.int w) ∧ w.toInt = 1 := by
    intro j hm
    obtain ⟨z, v, ⟨y, y1, y2⟩, a3, a4, w, rfl, ⟨u, u1, u2⟩⟩ := p6 _ hm
    dsimp only at y1 y2 a4 u1 u2
    rw [p1.2] at y1 u1
    cases Option.some.inj y1
    cases Option.some.inj u1
    rw [show z.toNat = j by simp only [Int.ofNat_eq_natCast] at y2; omega, gvG] at a4
    exact ⟨w, a4, by rw [u2]; rfl⟩
  obtain ⟨x8, a1, b1⟩ := num (j := 8) (List.mem_append_right _ (List.mem_cons_of_mem _ List.mem_cons_self))
  obtain ⟨x6, a3, b3⟩ := num (j := 6) (List.mem_append_right _ List.mem_cons_self)
  have e8 : Int32.ofInt V.2.1 = x8 := Value.int.inj (Option.some.inj (show some (Value.int (Int32.ofInt V.2.1)) = some (Value.int x8) from a1))
  have hf : V.2.1 = 1 := by
    rcases hOk.2.2.1 with h | h
    · exfalso
      rw [h] at e8
      rw [← e8] at b1
      revert b1
      decide
    · exact h
  have h6 : ghP6 T H := (ghB_iff (p := ghP6 T H) a3).1
  -- locals
  split at c1
  · rename_i m0 hm0
    obtain ⟨v0, m0', r0⟩ := p4.1 0 _ hm0
    cases (show v0 = .ref m0 from r0)
    rw [Nat.eq_of_beq_eq_true c1] at m0'
    split at c2
    · rename_i m1 hm1
      rw [Bool.and_eq_true] at c2
      obtain ⟨v1, m1', x1, rfl, ⟨w', w3, w4⟩⟩ := p4.1 1 _ hm1
      rw [Nat.eq_of_beq_eq_true c2.1] at w3
      have w5 := iEq_ok c2.2
      split at c3
      · rename_i m2 hm2
        rw [Bool.and_eq_true] at c3
        have hB : sxBR T τ (c.2.2.1.1, c.2.2.1.2.1, c.2.2.1.2.2.1, [], c.2.2.1.2.2.2.2.2.2.2) := ⟨hP1.1, hP1.2.1, hP1.2.2.1, (fun x hx => by cases hx), hP1.2.2.2.2.2.2.2⟩
        obtain ⟨yv, y1, y, rfl, ⟨u, u1, u2⟩⟩ := gOl hB hP1.2.2.2.2.2.1 hm2
        rw [Nat.eq_of_beq_eq_true c3.1] at u1
        have u3 := iEq_ok c3.2
        rw [gvE (by decide)] at y1
        obtain ⟨q4, q5, q6⟩ := List.any_eq_true.mp c4
        simp only [Bool.and_eq_true] at q6
        obtain ⟨a5, b5, d1, d2, d3⟩ := p3 q4 q5
        rw [Nat.eq_of_beq_eq_true q6.1, w3] at d1
        rw [Nat.eq_of_beq_eq_true q6.2.1, u1] at d2
        cases Option.some.inj d1
        cases Option.some.inj d2
        have d4 := iLe_ok q6.2.2
        obtain ⟨q7, q8, q9⟩ := List.any_eq_true.mp c5
        rw [Bool.and_eq_true] at q9
        obtain ⟨z7, s1, s2, s3⟩ := p2 q7 q8
        rw [Nat.eq_of_beq_eq_true q9.1, u1] at s1
        cases Option.some.inj s1
        have s4 := iLe_ok q9.2
        obtain ⟨fa, fb, z, -, -, ⟨w, f1, f2⟩, f4⟩ := p8 _ (List.mem_append_right _ List.mem_cons_self)
        have f4 : (tLn T : Int) = z := f4
        dsimp only at f1 f2
        rw [w3] at f1
        cases Option.some.inj f1
        simp only [Int.ofNat_eq_natCast] at f2
        have hR : rdR T H cl x1 y := ⟨⟨m0', m1', p4.2⟩, ⟨by omega, y1, by omega, by omega⟩, h6⟩
        have hval := rdJarV (scr := scr) (d := d) hcs hK hOk hf hd1 hH hR
        rw [← hk] at hval
        have hrun := h1 scr (fun o => ∃ (cv : Option Value) (H' : mjH) (C S : Nat) (τ' : List Int) (p : sxPt), o = (.inl cv, H', C, S) ∧ p ∈ c.2.2.2.2.1 ∧ sxUp τ τ' ∧ sxHR sxKw H' ∧ sxPtR T 579 (sxVw (ghL T V) scr 579 H') τ' p [] cv.toList ∧ sxKp c.2.2.2.1 (sxVw (ghL T V) scr 579 H) (sxVw (ghL T V) scr 579 H') ∧ C ≤ c.2.2.2.2.2.2.1 ∧ S ≤ c.2.2.2.2.2.2.2) d τ cl H hd2 hH hP1 (fun cv H' C S τ' p g1 g2 g3 g4 g5 g6 g7 => ⟨cv, H', C, S, τ', p, rfl, g1, g2, g3, g4, g5, g6, g7⟩)
          (fun E H' C S τ' p g1 => by
            split at c6
            · rename_i e
              rw [e] at g1
              cases g1
            · cases c6)
        refine mjRn_mo (fun o ho => ?_) (mjRn_and hrun hval)
        obtain ⟨⟨cv, H', C, S, τ', p, rfl, g1, g2, g3, g4, g5, g6, g7⟩, ⟨xx, e1, e2⟩, w1, w2, w3⟩ := ho
        have e1 : cv = some (.int xx) := Sum.inl.inj e1
        subst e1
        obtain ⟨k1, k2, k3, k4, k5, k6, k7, k8⟩ := g4
        have hO0 : sxOR (sxVw (ghL T V) scr 579 H) τ c.2.2.1.2.2.2.2.2.1 := fun x hx => p6 x (List.mem_append_left _ hx)
        have r9 : ∀ k, (Int32.ofInt (V.2.2 k)).toInt = V.2.2 k := fun k => rdI (hOk.2.2.2.2 k).1 (hOk.2.2.2.2 k).2
        unfold rdGks at hgk
        simp only [Bool.and_assoc, Bool.and_eq_true] at hgk
        obtain ⟨h9, h11, h12, h13, h14, h15⟩ := hgk
        have el : ∀ {i j : Nat} {z : Int}, ghV H' i j = z → (∃ x : Int32, sxEl H' i j = some (.int x)) → ∃ x : Int32, sxEl H' i j = some (.int x) ∧ x.toInt = z := fun {i j z} h1 ⟨x, h2⟩ => ⟨x, h2, by unfold ghV at h1; rw [h2] at h1; exact h1⟩
        have z8 : ∀ n : Nat, sxNR τ' (0, .ofNat n) n := fun n => ⟨0, k1.2, by simp⟩
        have hJo : sxOR (sxVw (ghL T V) scr 579 H') τ' (rdJo c v) := by
          intro x hx
          unfold rdJo at hx
          split at hx
          · rename_i e
            have e := iLe_ok e
            have w1 := w1 (by omega)
            have w3 := w3 (by omega)
            simp only [List.mem_cons, List.not_mem_nil, or_false] at hx
            rcases hx with rfl | rfl | rfl | rfl | rfl | rfl | rfl | rfl | rfl
            · obtain ⟨x, x1, x2⟩ := el (w1 0 (by decide)) (rdInt g3 (show (Nat.blt 82 579 && rdKI 82 0) = true by decide +kernel))
              exact ⟨0, _, z8 0, by decide, (gvE (show (82 : Nat) < 579 by decide)).trans x1, x, rfl, by rw [x2]; exact (rdGa (k := 0) p1.2 hO0 h9 (by decide) (r9 0)).up g2⟩
            · obtain ⟨x, x1, x2⟩ := el (w1 2 (by decide)) (rdInt g3 (show (Nat.blt 82 579 && rdKI 82 2) = true by decide +kernel))
              exact ⟨2, _, z8 2, by decide, (gvE (show (82 : Nat) < 579 by decide)).trans x1, x, rfl, by rw [x2]; exact (rdGa (k := 2) p1.2 hO0 h11 (by decide) (r9 2)).up g2⟩
            · obtain ⟨x, x1, x2⟩ := el (w1 3 (by decide)) (rdInt g3 (show (Nat.blt 82 579 && rdKI 82 3) = true by decide +kernel))
              exact ⟨3, _, z8 3, by decide, (gvE (show (82 : Nat) < 579 by decide)).trans x1, x, rfl, by rw [x2]; exact (rdGa (k := 3) p1.2 hO0 h12 (by decide) (r9 3)).up g2⟩
            · obtain ⟨x, x1, x2⟩ := el (w1 4 (by decide)) (rdInt g3 (show (Nat.blt 82 579 && rdKI 82 4) = true by decide +kernel))
              exact ⟨4, _, z8 4, by decide, (gvE (show (82 : Nat) < 579 by decide)).trans x1, x, rfl, by rw [x2]; exact (rdGa (k := 4) p1.2 hO0 h13 (by decide) (r9 4)).up g2⟩
            · obtain ⟨x, x1, x2⟩ := el (w1 5 (by decide)) (rdInt g3 (show (Nat.blt 82 579 && rdKI 82 5) = true by decide +kernel))
              exact ⟨5, _, z8 5, by decide, (gvE (show (82 : Nat) < 579 by decide)).trans x1, x, rfl, by rw [x2]; exact (rdGa (k := 5) p1.2 hO0 h14 (by decide) (r9 5)).up g2⟩
            · exact ⟨32, _, z8 32, by decide, rdOneX (g := 32) rfl (w3 0 (by decide) _ rfl), 1, rfl, 0, k1.2, rfl⟩
            · exact ⟨33, _, z8 33, by decide, rdOneX (g := 33) rfl (w3 1 (by decide) _ rfl), 1, rfl, 0, k1.2, rfl⟩
            · exact ⟨34, _, z8 34, by decide, rdOneX (g := 34) rfl (w3 2 (by decide) _ rfl), 1, rfl, 0, k1.2, rfl⟩
            · exact ⟨35, _, z8 35, by decide, rdOneX (g := 35) rfl (w3 3 (by decide) _ rfl), 1, rfl, 0, k1.2, rfl⟩
          · rename_i e
            have e := iLe_no e
            have w2 := w2 (by omega)
            cases List.mem_singleton.mp hx
            obtain ⟨x, x1, x2⟩ := el w2 (rdInt g3 (show (Nat.blt 78 579 && rdKI 78 3) = true by decide +kernel))
            exact ⟨3, _, z8 3, by decide, (gvE (show (78 : Nat) < 579 by decide)).trans x1, x, rfl, by rw [x2]; exact (rdGa (k := 6) p1.2 hO0 h15 (by decide) (r9 6)).up g2⟩
        exact hpost _ H' C S τ' _ (List.mem_map.mpr ⟨p, g1, rfl⟩) g2 g3 ⟨k1, (fun q hq => (List.mem_append.mp hq).elim (rdPd_ok k5 (e2.trans hv) q) (k2 q)), k3, k4, ⟨⟨xx, rfl, 0, k1.2, by rw [e2, hv]; simp⟩, trivial⟩, (fun q hq => (List.mem_append.mp hq).elim (hJo q) (k6 q)), k7, k8⟩ g5 g6 g7
      · cases c3
    · cases c2
  · cases c1
/-- a number that stands there, from what always holds -/
def rwI (H : mjH) (i j : Nat) : Int64 := match sxEl H i j with
  | some (.long x) => x
  | some (.int x) => x.toInt64
  | _ => 0
def rdKM (i j : Nat) (lo hi : Int) : Bool := match aGet2 sxKw.1 i with
  | some c => (match Nat.blt j c.2.1 with
    | true => (match (match aNth c.2.2.2 j with | some p => some p | none => c.2.2.1) with
      | some (.inr (_, a, b)) => (match iLe lo a with | true => iLe b hi | false => false)
      | _ => false)
    | false => false)
  | none => false
theorem rdNum {i j : Nat} {lo hi : Int} (hH : sxHR sxKw H) (h : (Nat.blt i 579 && rdKM i j lo hi) = true) : ∃ z, rwEl H i j = some z ∧ (lo ≤ z ∧ z ≤ hi) ∧ (rwI H i j).toInt = z := by
  rw [Bool.and_eq_true] at h
  obtain ⟨hi', h⟩ := h
  have hi' := bltOk hi'
  unfold rdKM at h
  split at h
  · rename_i c hc
    split at h
    · rename_i hj
      have hj := bltOk hj
      obtain ⟨e, e1, ⟨e2, e3⟩, e4⟩ := hH.2 i c hc hi'
      have hje : j < e.2.length := by rw [← e3]; exact hj
      have hv : e.2[j]? = some e.2[j] := List.getElem?_eq_getElem hje
      obtain ⟨q1, q2⟩ := e4 j _ hv
      have key : ∃ (kd : Bool) (a b : Int), sxPR (.inr (kd, a, b)) e.2[j] ∧ lo ≤ a ∧ b ≤ hi := by
        cases hp : aNth c.2.2.2 j with
        | some p =>
          rw [hp] at h
          dsimp only at h
          split at h
          · rename_i kd a b hw
            cases hw
            split at h
            · rename_i h1
              exact ⟨_, _, _, q2 _ hp, iLe_ok h1, iLe_ok h⟩
            · cases h
          · cases h
        | none =>
          rw [hp] at h
          dsimp only at h
          split at h
          · rename_i kd a b hw
            split at h
            · rename_i h1
              exact ⟨_, _, _, q1 _ hw, iLe_ok h1, iLe_ok h⟩
            · cases h
          · cases h
      have hs : sxEl H i j = some e.2[j] := by
        unfold sxEl
        rw [e1]
        exact hv
      obtain ⟨kd, a, b, hx, k1, k2⟩ := key
      unfold rwEl rwI
      rw [hs]
      cases kd with
      | false =>
        obtain ⟨x, hx, x1, x2⟩ := hx
        rw [hx]
        exact ⟨_, rfl, ⟨by omega, by omega⟩, Int32.toInt_toInt64 x⟩
      | true =>
        obtain ⟨x, hx, x1, x2⟩ := hx
        rw [hx]
        exact ⟨_, rfl, ⟨by omega, by omega⟩, rfl⟩
    · cases h
  · cases h
/-- a text whose rows are what stands there -/
theorem txRows (T : Nat) {b : mjO} (hH : sxHR sxKw b.2.1) : ∃ T', T' % tPw 600 = T % tPw 600 ∧ rdXR T' b := by
  obtain ⟨T', t1, t2⟩ := txU T (fun j => if j < 17 then rwI b.2.1 86 j else if j < 34 then rwI b.2.1 86 (12 + (j - 17)) else if j < 51 then rwI b.2.1 88 (j - 34) else rwI b.2.1 84 (j - 51))
  refine ⟨T', t1, fun i hi s hs => ?_⟩
  match i, hi, hs with
  | 0, _, hs =>
    cases hs
    intro k k1 _
    have k1 : k < 12 := k1
    obtain ⟨z, z1, -, z2⟩ := rdNum (i := 86) (j := 0 + k) (lo := -9223372036854775808) (hi := 9223372036854775807) hH (by rw [Nat.zero_add]; exact List.all_eq_true.mp (show (List.range 12).all (fun k => Nat.blt 86 579 && rdKM 86 k (-9223372036854775808) 9223372036854775807) = true by decide +kernel) k (List.mem_range.mpr k1))
    have e := t2 k (by omega)
    rw [if_pos (by omega)] at e
    rw [Nat.zero_add] at z2
    refine z1.trans (congrArg some ?_)
    show z = tUl T' ((k : Int)).toNat
    rw [show ((k : Int)).toNat = k from rfl, e, z2]
  | 1, _, hs =>
    cases hs
    intro k k1 _
    have k1 : k < 5 := k1
    obtain ⟨z, z1, -, z2⟩ := rdNum (i := 86) (j := 12 + k) (lo := -9223372036854775808) (hi := 9223372036854775807) hH (List.all_eq_true.mp (show (List.range 5).all (fun k => Nat.blt 86 579 && rdKM 86 (12 + k) (-9223372036854775808) 9223372036854775807) = true by decide +kernel) k (List.mem_range.mpr k1))
    have e := t2 (17 + k) (by omega)
    rw [if_neg (by omega), if_pos (by omega), show 17 + k - 17 = k by omega] at e
    refine z1.trans (congrArg some ?_)
    show z = tUl T' (17 + ((k : Int)).toNat)
    rw [show ((k : Int)).toNat = k from rfl, e, z2]
  | 2, _, hs =>
    cases hs
    intro k k1 _
    have k1 : k < 12 := k1
    obtain ⟨z, z1, -, z2⟩ := rdNum (i := 88) (j := 0 + k) (lo := -9223372036854775808) (hi := 9223372036854775807) hH (by rw [Nat.zero_add]; exact List.all_eq_true.mp (show (List.range 12).all (fun k => Nat.blt 88 579 && rdKM 88 k (-9223372036854775808) 9223372036854775807) = true by decide +kernel) k (List.mem_range.mpr k1))
    have e := t2 (34 + k) (by omega)
    rw [if_neg (by omega), if_neg (by omega), if_pos (by omega), show 34 + k - 34 = k by omega] at e
    rw [Nat.zero_add] at z2
    refine z1.trans (congrArg some ?_)
    show z = tUl T' (34 + ((k : Int)).toNat)
    rw [show ((k : Int)).toNat = k from rfl, e, z2]
  | 3, _, hs =>
    cases hs
    intro k k1 _
    have k1 : k < 12 := k1
    obtain ⟨z, z1, z3, z2⟩ := rdNum (i := 84) (j := 0 + k) (lo := 0) (hi := 63) hH (by rw [Nat.zero_add]; exact List.all_eq_true.mp (show (List.range 12).all (fun k => Nat.blt 84 579 && rdKM 84 k 0 63) = true by decide +kernel) k (List.mem_range.mpr k1))
    have e := t2 (51 + k) (by omega)
    rw [if_neg (by omega), if_neg (by omega), if_neg (by omega), show 51 + k - 51 = k by omega] at e
    rw [Nat.zero_add] at z2
    refine z1.trans (congrArg some ?_)
    show z = tCl 0 63 (tUl T' (51 + ((k : Int)).toNat))
    rw [show ((k : Int)).toNat = k from rfl, e, z2, tCl_id z3.1 z3.2]
  | n + 4, h, _ => exact absurd h (by omega)
theorem ghP6_mod {T T' : Nat} {H : mjH} (h : T' % tPw 600 = T % tPw 600) (h6 : ghP6 T H) : ghP6 T' H := ghP6_cut (Nat.le_of_eq (tLn_mod h)) (fun k _ => tBy_mod h k) h6
theorem ghP5_mod {T T' : Nat} {H : mjH} (h : T' % tPw 600 = T % tPw 600) (h5 : ghP5 T H) : ghP5 T' H := ghP5_cut (Nat.le_of_eq (tLn_mod h)) (fun k _ => tBy_mod h k) h5
/-- numbers, and rows, that are right for this text -/
theorem rdEx {cs : List (pxCt × Nat)} {k n C S : Nat} {M : sxMo} {x y : Int32} (hcs : ∀ (T : Nat), ∀ q ∈ cs, pxCtV sxKw (ghL T v00) q.1 ∧ rdChk q.2 q.1 = true ∧ rdCov k n M C S q.1 = true) (hK : ∀ q ∈ cs, (Nat.blt q.2 579 && rdKB q.2 2 0 12) = true) (hH' : sxHR sxKw H') (hR : rdR T H' cl' x y) : ∃ T' V, T' % tPw 600 = T % tPw 600 ∧ (V.1 < 0 → T' = T) ∧ rdOk cs T' V := by
  have meet : ∀ T', T' % tPw 600 = T % tPw 600 → ∀ q ∈ cs, ∀ o, rdG T' q.1 o → mjRn (fun b => sxHR sxKw b.2.1 ∧ sxHR sxKw o.2.1 ∧ rdY T' q.2 o b) none [] n k 0 cl' [] H' 0 0 := by
    intro T' hT q hq o ⟨scr0, d0, τ0, cl0, H0, g1, g2, g3, g4⟩
    obtain ⟨hc, hchk, hcov⟩ := hcs T' q hq
    unfold rdCov at hcov
    simp only [Bool.and_eq_true] at hcov
    obtain ⟨k1, k2, -⟩ := hcov
    have hR' : rdR T' H' cl' x y := ⟨hR.1, by rw [tLn_mod hT]; exact hR.2.1, ghP6_mod hT hR.2.2⟩
    have hm := rdMeet (V := v00) (scr' := none) (d' := n) hc hchk g1 (Nat.le_of_ble_eq_true k2) g2 hH' g3 hR'
    obtain ⟨r, hr1, hr2⟩ := mjRn_some (mjRn_and hm g4)
    subst hr2
    have hr1 : mjRn (fun b => rdE (ghL T' v00) scr0 none H0 H' q.1 r b ∧ rdY T' q.2 r b) none [] n q.1.1.2 0 cl' [] H' 0 0 := hr1
    rw [Nat.eq_of_beq_eq_true k1] at hr1
    refine mjRn_mo (fun b hb => ?_) hr1
    obtain ⟨⟨pp, hp, τ', ⟨cv, Ha, C1, S1, er, l2, -⟩, ⟨cv', Hb, C2, S2, er', l3, -⟩⟩, hy⟩ := hb
    exact ⟨by rw [er']; exact l3, by rw [er]; exact l2, hy⟩
  have no : ∀ T', ¬ (∃ q ∈ cs, ∃ o, rdG T' q.1 o) → rdOk cs T' v00 := fun T' ex => ⟨fun q hq o ho => absurd ⟨q, hq, o, ho⟩ ex, ⟨fun h => absurd h ex, fun h => absurd h (by decide)⟩, Or.inl rfl, ⟨by decide, by decide⟩, fun k => ⟨show -2147483648 ≤ (0 : Int) by decide, show (0 : Int) < 2147483648 by decide⟩⟩
  by_cases ex : ∃ q ∈ cs, ∃ o, rdG T q.1 o
  · obtain ⟨q0, hq0, o0, h0⟩ := ex
    obtain ⟨b, hb, hbH, -, z, b1, b2, b3, -⟩ := mjRn_ex (meet T rfl q0 hq0 o0 h0)
    have fin : ∀ T', T' % tPw 600 = T % tPw 600 → (∃ q ∈ cs, ∃ o, rdG T' q.1 o) → (z.toInt < 0 ∨ rdXR T' b) → rdOk cs T' (z.toInt, 1, rdU b) := by
      intro T' hT hex hX
      refine ⟨fun q hq o ho => ?_, ⟨fun _ => rfl, fun _ => hex⟩, Or.inr rfl, ⟨Int32.le_toInt z, Int32.toInt_lt z⟩, fun k => ?_⟩
      · obtain ⟨b', e, -, hoH, x, x1, x2, x3, x4⟩ := mjRn_some (mjRn_and hb (meet T' hT q hq o ho))
        subst e
        cases Value.int.inj (Option.some.inj (Sum.inl.inj (x1.symm.trans b1)))
        refine ⟨x2, x3, fun f0 => ?_⟩
        rcases hX with hX | hX
        · exfalso
          rcases x2 with ⟨-, fz⟩ | ⟨⟨f1, -⟩, -⟩
          · have := (rdKR hoH (hK q hq)).1
            omega
          · omega
        · intro i hi r hr
          obtain ⟨r', s', k3, k4, k5⟩ := x4 f0 i hi
          cases Option.some.inj (k3.symm.trans hr)
          exact k5.mpr (hX i hi s' k4)
      · show -2147483648 ≤ rdU b k ∧ rdU b k < 2147483648
        unfold rdU
        split <;> exact ghV_rg
    by_cases hz : z.toInt < 0
    · exact ⟨T, (z.toInt, 1, rdU b), rfl, fun _ => rfl, fin T rfl ⟨q0, hq0, o0, h0⟩ (Or.inl hz)⟩
    · obtain ⟨T', t1, t2⟩ := txRows T hbH
      by_cases ex' : ∃ q ∈ cs, ∃ o, rdG T' q.1 o
      · exact ⟨T', (z.toInt, 1, rdU b), t1, fun h => absurd h hz, fin T' t1 ex' (Or.inr t2)⟩
      · exact ⟨T', v00, t1, fun h => absurd h (by decide), no T' ex'⟩
  · exact ⟨T, v00, rfl, fun _ => rfl, no T ex⟩
end RD

/-! pairs of queries: one answer. The symbols that both heads share are tied to numbers of the ghost (places 9 to 18); V.1 is what the right one answers -/
noncomputable section QP
variable {T : Nat} {V : rdVt} {scr scr' : Option (List Int32)} {H H' : mjH} {d d' : Nat} {cl cl' : mjL} {τ τ' : List Int} {c : pxCt} {kd : Bool}
abbrev qTie : Type := List (Nat × Nat)
def qTo (t : qTie) : sxO := t.map (fun q => (579, (0, Int.ofNat (9 + q.2)), .inr (false, (q.1, 0))))
def qIn (t : qTie) (i : Nat) : Bool := Nat.beq i 0 || t.any (fun q => Nat.beq q.1 i && Nat.blt q.2 10)
def qVi (t : qTie) (v : sxV) : Bool := match v with | .inl _ => true | .inr (_, x) => qIn t x.1
/-- the right head speaks of tied symbols alone -/
def qRt (t : qTie) (l r : sxPt) : Bool := (Nat.beq r.1 l.1 && (r.2.2.2.1.all (fun q => qVi t q.2) && r.2.2.2.2.2.1.all (fun q => qIn t q.2.1.1 && qVi t q.2.2))) && (match r.2.1, r.2.2.1, r.2.2.2.2.1, r.2.2.2.2.2.2.1, r.2.2.2.2.2.2.2 with | [], [], [], [], [] => true | _, _, _, _, _ => false)
theorem qTo_w {t : qTie} {q : Nat × Nat} (h0 : τ[0]? = some 0) (hO : sxOR (sxVw (ghL T V) scr 579 H) τ (qTo t)) (hq : q ∈ t) (hk : q.2 < 10) : τ[q.1]? = some (Int32.ofInt (V.2.2 q.2)).toInt := by
  obtain ⟨z, v, ⟨y, y1, y2⟩, a2, a3, x, rfl, ⟨u, u1, u2⟩⟩ := hO _ (List.mem_map.mpr ⟨q, hq, rfl⟩)
  dsimp only at y1 y2 a3 u1 u2
  rw [h0] at y1
  cases Option.some.inj y1
  have e : ghL T V H (9 + q.2) = some (.int (Int32.ofInt (V.2.2 q.2))) := by
    rw [show 9 + q.2 = (q.2 + 2) + 7 by omega]
    refine Eq.trans (ghX_lt (show q.2 + 2 < 13 by omega)) ?_
    unfold ghT
    rw [if_neg (by omega), if_neg (by omega), if_neg (by omega), if_pos (by omega), show q.2 + 2 - 2 = q.2 by omega]
  rw [show z.toNat = 9 + q.2 by simp only [Int.ofNat_eq_natCast] at y2; omega, gvG, e] at a3
  cases Value.int.inj (Option.some.inj a3)
  rw [u1]
  exact congrArg some (by omega)
theorem qAgree {t : qTie} {i : Nat} (h0 : τ[0]? = some 0) (h0' : τ'[0]? = some 0) (hO : sxOR (sxVw (ghL T V) scr 579 H) τ (qTo t)) (hO' : sxOR (sxVw (ghL T V) scr' 579 H') τ' (qTo t)) (h : qIn t i = true) : τ[i]? = τ'[i]? := by
  unfold qIn at h
  rw [Bool.or_eq_true] at h
  rcases h with h | h
  · rw [Nat.eq_of_beq_eq_true h, h0, h0']
  · obtain ⟨q, q1, q2⟩ := List.any_eq_true.mp h
    rw [Bool.and_eq_true] at q2
    rw [← Nat.eq_of_beq_eq_true q2.1, qTo_w h0 hO q1 (bltOk q2.2), qTo_w h0' hO' q1 (bltOk q2.2)]
theorem qNR {t : qTie} {x : sxN} {z : Int} (h : ∀ i, qIn t i = true → τ[i]? = τ'[i]?) (hi : qIn t x.1 = true) (hx : sxNR τ' x z) : sxNR τ x z := by
  obtain ⟨y, h1, h2⟩ := hx
  exact ⟨y, (h _ hi).trans h1, h2⟩
theorem qVR {t : qTie} {a : sxV} {v : Value} (h : ∀ i, qIn t i = true → τ[i]? = τ'[i]?) (hi : qVi t a = true) (hx : sxVR τ' a v) : sxVR τ a v := by
  match a, hi, hx with
  | .inl _, _, hx => exact hx
  | .inr (false, x), hi, hx =>
    obtain ⟨y, rfl, hy⟩ := hx
    exact ⟨y, rfl, qNR h hi hy⟩
  | .inr (true, x), hi, hx =>
    obtain ⟨y, rfl, hy⟩ := hx
    exact ⟨y, rfl, qNR h hi hy⟩
/-- what the right head asks, with the left one's symbols -/
theorem qSwap {t : qTie} {l r : sxPt} (hr : qRt t l r = true) (h : ∀ i, qIn t i = true → τ[i]? = τ'[i]?) (hl : τ.length = l.1) (h0 : τ[0]? = some 0) {vw : Nat → Nat → Option Value} (hp : sxPtR T 579 vw τ' r cl []) : sxPtR T 579 vw τ r cl [] := by
  unfold qRt at hr
  simp only [Bool.and_eq_true] at hr
  obtain ⟨⟨h1, h2, h3⟩, h4⟩ := hr
  obtain ⟨p1, p2, p3, p4, p5, p6, p7, p8⟩ := hp
  obtain ⟨n, D, E, ls, st, O, G, F⟩ := r
  dsimp only at h1 h2 h3 h4 p1 p2 p3 p4 p5 p6 p7 p8
  split at h4
  · refine ⟨⟨by rw [hl]; exact (Nat.eq_of_beq_eq_true h1).symm, h0⟩, (fun q hq => by cases hq), (fun q hq => by cases hq), ⟨fun i a ha => ?_, p4.2⟩, p5, fun q hq => ?_, (fun q hq => by cases hq), (fun q hq => by cases hq)⟩
    · obtain ⟨v, v1, v2⟩ := p4.1 i a ha
      exact ⟨v, v1, qVR h (List.all_eq_true.mp h2 _ (sxGt_mem ha)) v2⟩
    · obtain ⟨z, v, a1, a2, a3, a4⟩ := p6 q hq
      have := List.all_eq_true.mp h3 q hq
      rw [Bool.and_eq_true] at this
      exact ⟨z, v, qNR h this.1 a1, a2, a3, qVR h this.2 a4⟩
  · cases h4
/-- the answers of both, of one kind -/
def qAns (kd : Bool) (z : Int) : Value := match kd with | false => .int (Int32.ofInt z) | true => .long (Int64.ofInt z)
def qPk (kd : Bool) (p : pxPt) : Bool := match p.1.2.2.2.2.1, p.2.2.2.2.2.1 with
  | [.inr (k1, x)], [.inr (k2, y)] => (bEq k1 kd && bEq k2 kd) && (sxLe (p.1.1, p.1.2.1, p.1.2.2.1, [], []) x y 0 && sxLe (p.1.1, p.1.2.1, p.1.2.2.1, [], []) y x 0)
  | _, _ => false
theorem qPk_ok {M M' : sxMo} {cs cs' : Nat × Nat} {v0 v0' : Nat → Nat → Option Value} {q : pxPt} {o o' : mjO} (h : qPk kd q = true) (h1 : pxEnR sxKw (ghL T V) scr M cs v0 τ q.1 o) (h2 : pxEnR sxKw (ghL T V) scr' M' cs' v0' τ q.2 o') : ∃ z, o.1 = .inl (some (qAns kd z)) ∧ o'.1 = .inl (some (qAns kd z)) ∧ (kd = false → -2147483648 ≤ z ∧ z < 2147483648) := by
  obtain ⟨cv, Ha, C, S, rfl, a1, a2, a3, a4, a5⟩ := h1
  obtain ⟨cv', Hb, C', S', rfl, b1, b2, b3, b4, b5⟩ := h2
  have a2 : sxPtR T 579 (sxVw (ghL T V) scr 579 Ha) τ q.1 [] cv.toList := a2
  have b2 : sxPtR T 579 (sxVw (ghL T V) scr' 579 Hb) τ q.2 [] cv'.toList := b2
  obtain ⟨p1, p2, p3, p4, p5, p6, p7, p8⟩ := a2
  obtain ⟨r1, r2, r3, r4, r5, r6, r7, r8⟩ := b2
  have hB : sxBR T τ (q.1.1, q.1.2.1, q.1.2.2.1, [], []) := ⟨p1, p2, p3, (fun x hx => by cases hx), fun x hx => by cases hx⟩
  unfold qPk at h
  split at h
  · rename_i k1 x k2 y e1 e2
    simp only [Bool.and_eq_true] at h
    obtain ⟨⟨h1, h2⟩, h3, h4⟩ := h
    have h1 := bEq_ok h1
    have h2 := bEq_ok h2
    subst h1
    subst h2
    rw [e1] at p5
    rw [e2] at r5
    cases cv with
    | none => exact p5.elim
    | some v =>
      cases cv' with
      | none => exact r5.elim
      | some w =>
        have p5 := p5.1
        have r5 := r5.1
        cases k2 with
        | false =>
          obtain ⟨a, rfl, ha⟩ := p5
          obtain ⟨b, rfl, hb⟩ := r5
          have k3 := sxLe_ok hB h3 ha hb
          have k4 := sxLe_ok hB h4 hb ha
          have e : a = b := Int32.toInt_inj.mp (by omega)
          subst e
          exact ⟨a.toInt, by unfold qAns; rw [Int32.ofInt_toInt], by unfold qAns; rw [Int32.ofInt_toInt], fun _ => ⟨Int32.le_toInt a, Int32.toInt_lt a⟩⟩
        | true =>
          obtain ⟨a, rfl, ha⟩ := p5
          obtain ⟨b, rfl, hb⟩ := r5
          have k3 := sxLe_ok hB h3 ha hb
          have k4 := sxLe_ok hB h4 hb ha
          have e : a = b := Int64.toInt_inj.mp (by omega)
          subst e
          exact ⟨a.toInt, by unfold qAns; rw [Int64.ofInt_toInt], by unfold qAns; rw [Int64.ofInt_toInt], fun h => by cases h⟩
  · cases h
/-- all that is asked of such a contract of two -/
def qChk (kd : Bool) (t : qTie) (c : pxCt) : Bool := (qRt t c.2.2.1.1 c.2.2.1.2 && rdAv c.2.2.1.1) && (rdAv c.2.2.1.2 && c.2.2.2.2.2.all (qPk kd))
theorem qMeet {t : qTie} (hc : pxCtV sxKw (ghL T V) c) (hchk : qChk kd t c = true) (hd : c.2.1.1 ≤ d) (hd' : c.2.1.2 ≤ d') (hH : sxHR sxKw H) (hH' : sxHR sxKw H') (hL : sxPtR T 579 (sxVw (ghL T V) scr 579 H) τ c.2.2.1.1 cl []) (hLt : sxOR (sxVw (ghL T V) scr 579 H) τ (qTo t)) (hR : sxPtR T 579 (sxVw (ghL T V) scr' 579 H') τ' c.2.2.1.2 cl' []) (hRt : sxOR (sxVw (ghL T V) scr' 579 H') τ' (qTo t)) :
    mjRn (fun a => mjRn (fun b => rdE (ghL T V) scr scr' H H' c a b ∧ ∃ z, a.1 = .inl (some (qAns kd z)) ∧ b.1 = .inl (some (qAns kd z)) ∧ (kd = false → -2147483648 ≤ z ∧ z < 2147483648)) scr' [] d' c.1.2 0 cl' [] H' 0 0) scr [] d c.1.1 0 cl [] H 0 0 := by
  unfold qChk at hchk
  simp only [Bool.and_eq_true] at hchk
  obtain ⟨⟨h1, -⟩, -, h2⟩ := hchk
  have hR2 := qSwap h1 (fun i hi => qAgree hL.1.2 hR.1.2 hLt hRt hi) hL.1.1 hL.1.2 hR
  exact hc scr scr' (fun a b => rdE (ghL T V) scr scr' H H' c a b ∧ ∃ z, a.1 = .inl (some (qAns kd z)) ∧ b.1 = .inl (some (qAns kd z)) ∧ (kd = false → -2147483648 ≤ z ∧ z < 2147483648)) d d' τ cl cl' H H' ⟨hd, hd'⟩ hH hH' hL hR2 (fun q hq o o' τ2 _ k1 k2 => ⟨⟨q, hq, τ2, k1, k2⟩, qPk_ok (List.all_eq_true.mp h2 q hq) k1 k2⟩)
/-- a good heap of the left one, and how it ends -/
def qG (T : Nat) (w : Nat → Int) (t : qTie) (c : pxCt) (o : mjO) : Prop := ∃ (scr : Option (List Int32)) (d : Nat) (τ : List Int) (cl : mjL) (H : mjH), c.2.1.1 ≤ d ∧ sxHR sxKw H ∧ sxPtR T 579 (sxVw (ghL T (0, 0, w)) scr 579 H) τ c.2.2.1.1 cl [] ∧ sxOR (sxVw (ghL T (0, 0, w)) scr 579 H) τ (qTo t) ∧ mjRn (fun a => a = o) scr [] d c.1.1 0 cl [] H 0 0
def qOk (kd : Bool) (t : qTie) (c : pxCt) (T : Nat) (V : rdVt) : Prop := (∀ o, qG T V.2.2 t c o → o.1 = .inl (some (qAns kd V.1))) ∧ ((∃ o, qG T V.2.2 t c o) ↔ V.2.1 = 1) ∧ (V.2.1 = 0 ∨ V.2.1 = 1) ∧ (kd = false → -2147483648 ≤ V.1 ∧ V.1 < 2147483648)
/-- ties speak of the numbers alone -/
theorem qToV {t : qTie} {V' : rdVt} (hw : V.2.2 = V'.2.2) (hk : t.all (fun q => Nat.blt q.2 10) = true) (h0 : τ[0]? = some 0) (h : sxOR (sxVw (ghL T V) scr 579 H) τ (qTo t)) : sxOR (sxVw (ghL T V') scr 579 H) τ (qTo t) := by
  intro q hq
  obtain ⟨z, v, a1, a2, a3, a4⟩ := h q hq
  obtain ⟨s, hs, rfl⟩ := List.mem_map.mp hq
  have hk := bltOk (List.all_eq_true.mp hk s hs)
  refine ⟨z, v, a1, a2, ?_, a4⟩
  obtain ⟨y, y1, y2⟩ := a1
  dsimp only at y1 y2 a3 ⊢
  rw [h0] at y1
  cases Option.some.inj y1
  have ez : z.toNat = (s.2 + 2) + 7 := by simp only [Int.ofNat_eq_natCast] at y2; omega
  rw [ez, gvG] at a3 ⊢
  have e : ∀ V : rdVt, ghL T V H (s.2 + 2 + 7) = some (.int (Int32.ofInt (V.2.2 s.2))) := by
    intro V
    refine Eq.trans (ghX_lt (show s.2 + 2 < 13 by omega)) ?_
    unfold ghT
    rw [if_neg (by omega), if_neg (by omega), if_neg (by omega), if_pos (by omega), show s.2 + 2 - 2 = s.2 by omega]
  rw [e] at a3 ⊢
  rw [← hw]
  exact a3
/-- a number that is right for these -/
theorem qEx {t : qTie} {w : Nat → Int} {r0 : List Int} (hc : ∀ V, pxCtV sxKw (ghL T V) c) (hchk : qChk kd t c = true) (hk : t.all (fun q => Nat.blt q.2 10) = true) (hH' : sxHR sxKw H') (hR : sxPtR T 579 (sxVw (ghL T (0, 0, w)) scr' 579 H') r0 c.2.2.1.2 cl' []) (hRt : sxOR (sxVw (ghL T (0, 0, w)) scr' 579 H') r0 (qTo t)) : ∃ V : rdVt, V.2.2 = w ∧ qOk kd t c T V := by
  have meet : ∀ o, qG T w t c o → mjRn (fun b => ∃ z, o.1 = .inl (some (qAns kd z)) ∧ b.1 = .inl (some (qAns kd z)) ∧ (kd = false → -2147483648 ≤ z ∧ z < 2147483648)) scr' [] c.2.1.2 c.1.2 0 cl' [] H' 0 0 := by
    intro o ⟨scr0, d0, τ0, cl0, H0, g1, g2, g3, g4, g5⟩
    have hm := qMeet (hc (0, 0, w)) hchk g1 (Nat.le_refl _) g2 hH' g3 g4 hR hRt
    obtain ⟨r, hr1, hr2⟩ := mjRn_some (mjRn_and hm g5)
    subst hr2
    exact mjRn_mo (fun b hb => hb.2) hr1
  by_cases ex : ∃ o, qG T w t c o
  · obtain ⟨o0, h0⟩ := ex
    obtain ⟨b, hb, z, b1, b2, b3⟩ := mjRn_ex (meet o0 h0)
    refine ⟨(z, 1, w), rfl, fun o ho => ?_, ⟨fun _ => rfl, fun _ => ⟨o0, h0⟩⟩, Or.inr rfl, b3⟩
    obtain ⟨b', e, y, y1, y2, -⟩ := mjRn_some (mjRn_and hb (meet o ho))
    subst e
    rw [y1, ← y2, b2]
  · exact ⟨(0, 0, w), rfl, fun o ho => absurd ⟨o, ho⟩ ex, ⟨fun h => absurd h ex, fun h => absurd (show (0 : Int) = 1 from h) (by decide)⟩, Or.inl rfl, fun _ => ⟨show -2147483648 ≤ (0 : Int) by decide, show (0 : Int) < 2147483648 by decide⟩⟩
/-- where the answer stands among the ghost's numbers; the last symbol of the heads is kept for it -/
def qPl (kd : Bool) : Nat := match kd with | false => 7 | true => 19
def qRng (kd : Bool) : Int × Int := match kd with | false => (-2147483648, 2147483647) | true => (-9223372036854775808, 9223372036854775807)
theorem qPl_ok : sxVw (ghL T V) scr 579 H 579 (qPl kd) = some (qAns kd V.1) := by
  cases kd with
  | false => exact gvG
  | true => exact gvG
def qA (c : pxCt) : Nat := c.2.2.1.1.1 - 1
def qE1 (kd : Bool) (c : pxCt) : sxO := [(579, (0, Int.ofNat (qPl kd)), .inr (kd, (qA c, 0)))]
def qE8 : sxO := [(579, (0, Int.ofNat 8), .inr (false, (0, 1)))]
def qCtL (kd : Bool) (t : qTie) (c : pxCt) : sxCt := (c.1.1, c.2.1.1, (c.2.2.1.1.1, c.2.2.1.1.2.1, c.2.2.1.1.2.2.1, c.2.2.1.1.2.2.2.1, c.2.2.1.1.2.2.2.2.1, c.2.2.1.1.2.2.2.2.2.1 ++ (c.2.2.1.2.2.2.2.2.2.1 ++ (qTo t ++ qE1 kd c)), c.2.2.1.1.2.2.2.2.2.2.1, c.2.2.1.1.2.2.2.2.2.2.2), c.2.2.2.1.1,
  [(c.2.2.1.1.1, [], [], [], [.inr (kd, (qA c, 0))], qE8, [], [])], [], c.2.2.2.2.1.1.1, c.2.2.2.2.1.1.2)
def qCtR (kd : Bool) (t : qTie) (c : pxCt) : sxCt := (c.1.2, c.2.1.2, (c.2.2.1.2.1, [], [], c.2.2.1.2.2.2.2.1, [], c.2.2.1.2.2.2.2.2.2.1 ++ (qTo t ++ (qE1 kd c ++ qE8)), [], []), c.2.2.2.1.2,
  [(c.2.2.1.1.1, [], [], [], [.inr (kd, (qA c, 0))], [], [], [])], [], c.2.2.2.2.1.2.1, c.2.2.2.2.1.2.2)
/-- locals for the right one, made of its head -/
def qVal (τ : List Int) (v : sxV) : Value := match v with
  | .inl m => .ref m
  | .inr (false, x) => .int (Int32.ofInt (τ.getD x.1 0 + x.2))
  | .inr (true, x) => .long (Int64.ofInt (τ.getD x.1 0 + x.2))
def qMk (τ : List Int) (ls : sxL) : mjL := ls.map (fun q => (q.1, qVal τ q.2))
def qVok (B : sxB) (v : sxV) : Bool := match v with
  | .inl m => Nat.blt m 579
  | .inr (k, x) => match sxRg B x with
    | some r => iLe (qRng k).1 r.1 && iLe r.2 (qRng k).2
    | none => false
def qCl (c : pxCt) : Bool := c.2.2.1.2.2.2.2.1.all (fun q => qVok (c.2.2.1.1.1, c.2.2.1.1.2.1, c.2.2.1.1.2.2.1, [], []) q.2)
theorem qMk_get : ∀ {ls : sxL} {i : Nat} {a : sxV}, sxGt ls i = some a → mjGet (qMk τ ls) i = some (qVal τ a)
  | [], _, _, h => by cases h
  | q :: r, i, a, h => by
    unfold sxGt at h
    show (if (q.1 == i) = true then some (qVal τ q.2) else mjGet (qMk τ r) i) = some (qVal τ a)
    split at h
    · rename_i e
      cases h
      rw [if_pos (by rw [Nat.eq_of_beq_eq_true e]; exact beq_self_eq_true i)]
    · rename_i e
      rw [if_neg (fun q2 => Nat.ne_of_beq_eq_false e (eq_of_beq q2))]
      exact qMk_get h
theorem qVal_ok {B : sxB} {v : sxV} (hB : sxBR T τ B) (h : qVok B v = true) : sxVR τ v (qVal τ v) ∧ mjSc 579 (qVal τ v) = true := by
  match v, h with
  | .inl m, h =>
    refine ⟨rfl, ?_⟩
    show (decide (m < 579) || decide (mjS0 ≤ m)) = true
    rw [decide_eq_true (bltOk h)]
    rfl
  | .inr (k, x), h =>
    unfold qVok at h
    dsimp only at h
    split at h
    · rename_i r hr
      rw [Bool.and_eq_true] at h
      have h1 := iLe_ok h.1
      have h2 := iLe_ok h.2
      obtain ⟨z, hz⟩ := sxRg_ex hB hr
      have h3 := sxRg_ok hB hr hz
      obtain ⟨y, y1, y2⟩ := hz
      have e : τ.getD x.1 0 = y := by rw [List.getD_eq_getElem?_getD, y1]; rfl
      cases k with
      | false =>
        simp only [qRng] at h1 h2
        refine ⟨⟨_, rfl, y, y1, ?_⟩, rfl⟩
        rw [e]
        exact i32_of (by omega) (by omega)
      | true =>
        simp only [qRng] at h1 h2
        refine ⟨⟨_, rfl, y, y1, ?_⟩, rfl⟩
        rw [e]
        exact Int64.toInt_ofInt_of_le (by omega) (by omega)
    · cases h
theorem qEnt {x : sxN} {g : Nat} {a : sxV} {O : sxO} (h0 : τ[0]? = some 0) (hO : sxOR (sxVw (ghL T V) scr 579 H) τ O) (hm : (579, (0, Int.ofNat g), a) ∈ O) : ∃ v, sxVw (ghL T V) scr 579 H 579 g = some v ∧ sxVR τ a v := by
  obtain ⟨z, v, ⟨y, y1, y2⟩, a2, a3, a4⟩ := hO _ hm
  dsimp only at y1 y2 a3 a4
  rw [h0] at y1
  cases Option.some.inj y1
  rw [show z.toNat = g by simp only [Int.ofNat_eq_natCast] at y2; omega] at a3
  exact ⟨v, a3, a4⟩
theorem qAnsR (h0 : τ[0]? = some 0) {O : sxO} (hO : sxOR (sxVw (ghL T V) scr 579 H) τ O) (hm : ∀ q ∈ qE1 kd c, q ∈ O) : sxVR τ (.inr (kd, (qA c, 0))) (qAns kd V.1) := by
  obtain ⟨v, h1, h2⟩ := qEnt (x := (0, 0)) h0 hO (hm _ List.mem_cons_self)
  rw [qPl_ok] at h1
  cases h1
  exact h2
theorem qLeftC {t : qTie} (hc : pxCtV sxKw (ghL T V) c) (hchk : qChk kd t c = true) (hcl : qCl c = true) (hk : t.all (fun q => Nat.blt q.2 10) = true) (hOk : qOk kd t c T V) : sxCtV sxKw (ghL T V) (qCtL kd t c) := by
  intro scr Z d τ cl H hd hH hpre hpost _
  have hpre : sxPtR T 579 (sxVw (ghL T V) scr 579 H) τ (qCtL kd t c).2.2.1 cl [] := hpre
  obtain ⟨p1, p2, p3, p4, p5, p6, p7, p8⟩ := hpre
  have hL : sxPtR T 579 (sxVw (ghL T V) scr 579 H) τ c.2.2.1.1 cl [] := ⟨p1, p2, p3, p4, p5, fun x hx => p6 x (List.mem_append_left _ hx), p7, p8⟩
  have hLt : sxOR (sxVw (ghL T V) scr 579 H) τ (qTo t) := fun x hx => p6 x (List.mem_append_right _ (List.mem_append_right _ (List.mem_append_left _ hx)))
  have hchk2 := hchk
  unfold qChk at hchk2
  simp only [Bool.and_eq_true] at hchk2
  obtain ⟨⟨hrt, hav⟩, hav', -⟩ := hchk2
  have hB : sxBR T τ (c.2.2.1.1.1, c.2.2.1.1.2.1, c.2.2.1.1.2.2.1, [], []) := ⟨p1, p2, p3, (fun x hx => by cases hx), fun x hx => by cases hx⟩
  have hR : sxPtR T 579 (sxVw (ghL T V) scr 579 H) τ c.2.2.1.2 (qMk τ c.2.2.1.2.2.2.2.1) [] := by
    have hO' : sxOR (sxVw (ghL T V) scr 579 H) τ c.2.2.1.2.2.2.2.2.2.1 := fun x hx => p6 x (List.mem_append_right _ (List.mem_append_left _ hx))
    have hls : sxLR 579 τ c.2.2.1.2.2.2.2.1 (qMk τ c.2.2.1.2.2.2.2.1) := ⟨fun i a ha => ⟨_, qMk_get ha, (qVal_ok hB (List.all_eq_true.mp hcl _ (sxGt_mem ha))).1⟩, fun q hq => by
      obtain ⟨s, hs, rfl⟩ := List.mem_map.mp hq
      exact (qVal_ok hB (List.all_eq_true.mp hcl s hs)).2⟩
    have hrt := hrt
    unfold qRt at hrt
    simp only [Bool.and_eq_true] at hrt
    obtain ⟨⟨h1, -, -⟩, h4⟩ := hrt
    generalize c.2.2.1.2 = r at hO' hls h1 h4 ⊢
    obtain ⟨n, D, E, ls, st, O, G, F⟩ := r
    dsimp only at hO' hls h1 h4 ⊢
    split at h4
    · exact ⟨⟨p1.1.trans (Nat.eq_of_beq_eq_true h1).symm, p1.2⟩, (fun q hq => by cases hq), (fun q hq => by cases hq), hls, trivial, hO', (fun q hq => by cases hq), (fun q hq => by cases hq)⟩
    · cases h4
  have hm := qMeet (scr' := scr) (d' := c.2.1.2) hc hchk hd (Nat.le_refl _) hH hH hL hLt hR hLt
  obtain ⟨r, hr, hb⟩ := mjRn_ex hm
  obtain ⟨b, ⟨pp, hp, τ', ⟨cv, Ha, C, S, er, g2, g3, g4, g5, g6⟩, -⟩, -⟩ := mjRn_some hb
  have hG : qG T V.2.2 t c r := ⟨scr, d, τ, cl, H, hd, hH, rdTo hav hL, qToV (V := V) (V' := (0, 0, V.2.2)) rfl hk p1.2 hLt, hr⟩
  have hV := hOk.1 r hG
  have hf := hOk.2.1.mp ⟨r, hG⟩
  refine mjRn_mo (fun x hx => ?_) hr
  subst hx
  subst er
  have hV : (.inl cv : Option Value ⊕ _) = .inl (some (qAns kd V.1)) := hV
  cases Sum.inl.inj hV
  refine hpost (some (qAns kd V.1)) Ha C S τ _ List.mem_cons_self sxUp.rf g2 ⟨⟨p1.1, p1.2⟩, (fun x hx => (by cases hx)), (fun x hx => (by cases hx)), ⟨fun i a ha => (by cases ha), fun x hx => (by cases hx)⟩, ⟨qAnsR p1.2 p6 (fun q hq => List.mem_append_right _ (List.mem_append_right _ (List.mem_append_right _ hq))), trivial⟩, fun x hx => ?_, (fun x hx => (by cases hx)), (fun x hx => (by cases hx))⟩ g4 g5 g6
  cases List.mem_singleton.mp hx
  exact ⟨((8 : Nat) : Int), .int (Int32.ofInt V.2.1), ⟨0, p1.2, rfl⟩, by decide, gvG, _, rfl, 0, p1.2, by rw [hf]; rfl⟩
theorem qRightC {t : qTie} (hc : pxCtV sxKw (ghL T V) c) (hchk : qChk kd t c = true) (hk : t.all (fun q => Nat.blt q.2 10) = true) (hOk : qOk kd t c T V) : sxCtV sxKw (ghL T V) (qCtR kd t c) := by
  intro scr Z d τ cl H hd hH hpre hpost _
  have hpre : sxPtR T 579 (sxVw (ghL T V) scr 579 H) τ (qCtR kd t c).2.2.1 cl [] := hpre
  obtain ⟨p1, p2, p3, p4, p5, p6, p7, p8⟩ := hpre
  have hRt : sxOR (sxVw (ghL T V) scr 579 H) τ (qTo t) := fun x hx => p6 x (List.mem_append_right _ (List.mem_append_left _ hx))
  have hchk2 := hchk
  unfold qChk at hchk2
  simp only [Bool.and_eq_true] at hchk2
  obtain ⟨⟨hrt, hav⟩, hav', -⟩ := hchk2
  have hl : τ.length = c.2.2.1.1.1 := by
    unfold qRt at hrt
    simp only [Bool.and_eq_true] at hrt
    exact p1.1.trans (Nat.eq_of_beq_eq_true hrt.1.1)
  have hR : sxPtR T 579 (sxVw (ghL T V) scr 579 H) τ c.2.2.1.2 cl [] := by
    have hO' : sxOR (sxVw (ghL T V) scr 579 H) τ c.2.2.1.2.2.2.2.2.2.1 := fun x hx => p6 x (List.mem_append_left _ hx)
    have hls : sxLR 579 τ c.2.2.1.2.2.2.2.1 cl := p4
    have hn : τ.length = c.2.2.1.2.1 := p1.1
    have hrt := hrt
    unfold qRt at hrt
    simp only [Bool.and_eq_true] at hrt
    obtain ⟨-, h4⟩ := hrt
    generalize c.2.2.1.2 = r at hO' hls hn h4 ⊢
    obtain ⟨n, D, E, ls, st, O, G, F⟩ := r
    dsimp only at hO' hls hn h4 ⊢
    split at h4
    · exact ⟨⟨hn, p1.2⟩, (fun q hq => by cases hq), (fun q hq => by cases hq), hls, trivial, hO', (fun q hq => by cases hq), (fun q hq => by cases hq)⟩
    · cases h4
  have hf : V.2.1 = 1 := by
    obtain ⟨v, h1, w, rfl, u, u1, u2⟩ := qEnt (x := (0, 0)) (g := 8) p1.2 p6 (List.mem_append_right _ (List.mem_append_right _ (List.mem_append_right _ List.mem_cons_self)))
    dsimp only at u1 u2
    rw [p1.2] at u1
    cases Option.some.inj u1
    have e8 : Int32.ofInt V.2.1 = w := Value.int.inj (Option.some.inj (show some (Value.int (Int32.ofInt V.2.1)) = some (Value.int w) from gvG.symm.trans h1))
    rcases hOk.2.2.1 with h | h
    · exfalso
      rw [h] at e8
      rw [← e8] at u2
      revert u2
      decide
    · exact h
  obtain ⟨o, scr0, d0, τ0, cl0, H0, g1, g2, g3, g4, g5⟩ := hOk.2.1.mpr hf
  have hm := qMeet (V := V) (scr' := scr) (d' := d) hc hchk g1 hd g2 hH (rdTo hav g3) (qToV (V := (0, 0, V.2.2)) (V' := V) rfl hk g3.1.2 g4) hR hRt
  obtain ⟨r, hr1, hr2⟩ := mjRn_some (mjRn_and hm g5)
  subst hr2
  have hV := hOk.1 r ⟨scr0, d0, τ0, cl0, H0, g1, g2, g3, g4, g5⟩
  refine mjRn_mo (fun b hb => ?_) hr1
  obtain ⟨⟨pp, hp, τ', -, ⟨cv, Hb, C, S, er, k2, k3, k4, k5, k6⟩⟩, z, z1, z2, -⟩ := hb
  subst er
  have e : (.inl cv : Option Value ⊕ _) = .inl (some (qAns kd V.1)) := (show _ = _ from z2).trans (z1.symm.trans hV)
  cases Sum.inl.inj e
  exact hpost (some (qAns kd V.1)) Hb C S τ _ List.mem_cons_self sxUp.rf k2 ⟨⟨hl, p1.2⟩, (fun x hx => (by cases hx)), (fun x hx => (by cases hx)), ⟨fun i a ha => (by cases ha), fun x hx => (by cases hx)⟩, ⟨qAnsR p1.2 p6 (fun q hq => List.mem_append_right _ (List.mem_append_right _ (List.mem_append_left _ hq))), trivial⟩, (fun x hx => (by cases hx)), (fun x hx => (by cases hx)), (fun x hx => (by cases hx))⟩ k4 k5 k6
end QP

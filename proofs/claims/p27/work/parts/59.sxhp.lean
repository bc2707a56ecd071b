/-! SX: instructions on the heap -/
noncomputable section SXHP
abbrev sxHQ : Type := Nat × List sxV × sxB × sxO × sxG
abbrev sxHn : Type := sxB → sxO → sxG → List sxV → Option (List sxHQ)
/-- a field of this type takes this value -/
def sxOk (ty : FieldType) (n : Nat) (B : sxB) (a : sxV) : Bool := match a with
  | .inl r => mjOk ty n (.ref r)
  | .inr (false, x) => (match ty with
    | .int => true
    | .boolean => (match sxRg B x with | some p => (match iLe 0 p.1 with | true => iLe p.2 1 | false => false) | none => false)
    | _ => false)
  | .inr (true, _) => (match ty with | .long => true | _ => false)
def sxRdI (K : sxKx) (tg : Nat → Bool) (p : Nat) : sxHn := fun B O G st => match st with
  | .inr (false, x) :: .inl o :: r => (match sxRd K O G B tg o (sxNm B x) with
    | some l => some (l.map (fun q => (p, q.1 :: r, q.2.1, q.2.2, G)))
    | none => none)
  | _ => none
/-- the script: its length is a number of those known -/
def sxXI (K : sxKx) (sl : Option sxN) (p : Nat) : sxHn := fun B O G st => match st with
  | .inr (false, x) :: .inl o :: r => (match Nat.beq o mjScr with
    | false => sxRdI K (fun t => Nat.beq t 100) p B O G st
    | true => match sl with
      | none => none
      | some n => match sxLe B (0, 0) x 0 with
        | true => (match sxLe B x n (-1) with
          | true => (match sxOl O o x with
            | some v => some [(p, v :: r, B, O, G)]
            | none => some ((sxOut o x B O (.inr (false, -sxM32, sxM32 - 1))).map (fun q => (p, q.1 :: r, q.2.1, q.2.2, G))))
          | false => none)
        | false => none)
  | _ => none
def sxWrI (K : sxKx) (M : sxMo) (tg : Nat → Bool) (k : Bool) (p : Nat) : sxHn := fun B O G st => match st with
  | .inr (k2, v) :: .inr (false, x) :: .inl o :: r => (match bEq k2 k with
    | true => (match sxWr K M O G B tg o (sxNm B x) (.inr (k2, v)) with
      | some w => some [(p, r, B, w.1, w.2)]
      | none => none)
    | false => none)
  | _ => none
def sxBst (K : sxKx) (M : sxMo) (p : Nat) : sxHn := fun B O G st => match st with
  | .inr (false, v) :: .inr (false, x) :: .inl o :: r => (match aGet2 K.1 o with
    | none => none
    | some c => match Nat.beq c.1 102 with
      | true => (match sxNar (-128) 127 B v with
        | some w => (match sxWr K M O G w.1 (fun t => Nat.beq t 102) o (sxNm B x) (.inr (false, w.2)) with
          | some z => some [(p, r, w.1, z.1, z.2)]
          | none => none)
        | none => none)
      | false => match sxRg B v with
        | some q => (match iLe 0 q.1 with
          | true => (match iLe q.2 1 with
            | true => (match sxWr K M O G B (fun t => Nat.beq t 103) o (sxNm B x) (.inr (false, v)) with
              | some z => some [(p, r, B, z.1, z.2)]
              | none => none)
            | false => none)
          | false => none)
        | none => none)
  | _ => none
def sxHp (K : sxKx) (M : sxMo) (sl : Option sxN) (x : mjX) (pc : Nat) : Option sxHn := match x.1 with
  | .getfield _ => some (fun B O G st => match st with
    | .inl o :: r => (match sxRd K O G B (fun t => Nat.beq t x.2.2.1) o (0, Int.ofNat x.2.2.2.1) with
      | some l => some (l.map (fun q => (pc + 3, q.1 :: r, q.2.1, q.2.2, G)))
      | none => none)
    | _ => none)
  | .putfield _ => some (fun B O G st => match st with
    | v :: .inl o :: r => (match sxOk (mjTy x.2.2.1 x.2.2.2.1) K.2.1 B v with
      | true => (match sxWr K M O G B (fun t => Nat.beq t x.2.2.1) o (0, Int.ofNat x.2.2.2.1) v with
        | some w => some [(pc + 3, r, B, w.1, w.2)]
        | none => none)
      | false => none)
    | _ => none)
  | .arraylength => some (fun B O G st => match st with
    | .inl o :: r => (match Nat.beq o mjScr with
      | true => (match sl with | some n => some [(pc + 1, .inr (false, n) :: r, B, O, G)] | none => none)
      | false => match aGet2 K.1 o with
        | some c => (match Nat.blt o K.2.1 with
          | true => (match Nat.ble 100 c.1 with
            | true => (match Nat.blt c.1 107 with
              | true => (match Nat.blt c.2.1 2147483648 with
                | true => some [(pc + 1, .inr (false, (0, Int.ofNat c.2.1)) :: r, B, O, G)]
                | false => none)
              | false => none)
            | false => none)
          | false => none)
        | none => none)
    | _ => none)
  | .iaload => some (sxXI K sl (pc + 1))
  | .laload => some (sxRdI K (fun t => Nat.beq t 101) (pc + 1))
  | .baload => some (sxRdI K (fun t => match Nat.beq t 102 with | true => true | false => Nat.beq t 103) (pc + 1))
  | .aaload => some (sxRdI K (fun t => match Nat.ble 104 t with | true => Nat.ble t 106 | false => false) (pc + 1))
  | .iastore => some (sxWrI K M (fun t => Nat.beq t 100) false (pc + 1))
  | .lastore => some (sxWrI K M (fun t => Nat.beq t 101) true (pc + 1))
  | .bastore => some (sxBst K M (pc + 1))
  | .ldc _ => some (match x.2.2.2.1 with
    | 0 => (match Nat.blt x.2.2.1 2147483648 with
      | true => (fun B O G st => some [(pc + 2, .inr (false, (0, Int.ofNat x.2.2.1)) :: st, B, O, G)])
      | false => (fun _ _ _ _ => none))
    | _ + 1 => (fun B O G st => some [(pc + 2, .inl (mjS0 + x.2.2.1) :: st, B, O, G)]))
  | .ldc_w _ => some (match x.2.2.2.1 with
    | 0 => (match Nat.blt x.2.2.1 2147483648 with
      | true => (fun B O G st => some [(pc + 3, .inr (false, (0, Int.ofNat x.2.2.1)) :: st, B, O, G)])
      | false => (fun _ _ _ _ => none))
    | _ + 1 => (fun _ _ _ _ => none))
  | .ldc2_w _ => some (match Nat.blt x.2.2.1 9223372036854775808 with
    | true => (fun B O G st => some [(pc + 3, .inr (true, (0, Int.ofNat x.2.2.1)) :: st, B, O, G)])
    | false => match Nat.blt x.2.2.1 18446744073709551616 with
      | true => iFc (Int.ofNat x.2.2.1 - 18446744073709551616) fun c => (fun B O G st => some [(pc + 3, .inr (true, (0, c)) :: st, B, O, G)])
      | false => (fun B O G st => match sxAny sxM64 B with | (B', n) => some [(pc + 3, .inr (true, n) :: st, B', O, G)]))
  | _ => none
theorem i64_neg {a : Nat} (h1 : 9223372036854775808 ≤ a) (h2 : a < 18446744073709551616) : (Int64.ofNat a).toInt = (a : Int) - 18446744073709551616 := by
  have e : (Int64.ofNat a).toInt = (BitVec.ofNat 64 a).toInt := rfl
  rw [e, BitVec.toInt_eq_toNat_cond, BitVec.toNat_ofNat, Nat.mod_eq_of_lt (by simpa using h2), if_neg (by omega)]
  rfl
variable {σ σ' : List Int} {B : sxB} {O : sxO} {G : sxG} {K : sxKx} {H : mjH} {M : sxMo} {st : List sxV} {cs : List Value} {l : List sxHQ} {x : mjX} {pc p : Nat} {gh : sxGh} {scr sc : Option (List Int32)} {sl : Option sxN}
/-- the script as it is known here -/
def sxSl (σ : List Int) (sl : Option sxN) (scr : Option (List Int32)) : Prop := match sl with
  | none => True
  | some n => ∃ xs : List Int32, scr = some xs ∧ xs.length < 2147483648 ∧ sxNR σ n (xs.length : Int)
/-- one of the ways is the machine's -/
def sxHG (K : sxKx) (M : sxMo) (gh : sxGh) (scr sc : Option (List Int32)) (x : mjX) (pc : Nat) (σ : List Int) (cs : List Value) (H : mjH) (l : List sxHQ) : Prop :=
  ∃ q ∈ l, ∃ (σ' : List Int) (cs' : List Value) (H' : mjH), sxUp σ σ' ∧ sxBR (gT gh) σ' q.2.2.1 ∧ sxSR σ' q.2.1 cs' ∧ sxHR K H' ∧ sxOR (sxVw gh scr K.2.1 H') σ' q.2.2.2.1 ∧ sxGR (sxVw gh scr K.2.1 H') σ' q.2.2.2.2 ∧ sxKp M (sxVw gh scr K.2.1 H) (sxVw gh scr K.2.1 H') ∧ mjHp sc x pc cs H = some (q.1, cs', H')
theorem sxHG.one {p1 : Nat} {st' : List sxV} {B' : sxB} {O' : sxO} {G' : sxG} {σ' : List Int} {cs' : List Value} {H' : mjH} (h1 : sxUp σ σ') (h2 : sxBR (gT gh) σ' B') (h3 : sxSR σ' st' cs') (h4 : sxHR K H') (h5 : sxOR (sxVw gh scr K.2.1 H') σ' O') (h6 : sxGR (sxVw gh scr K.2.1 H') σ' G') (h7 : sxKp M (sxVw gh scr K.2.1 H) (sxVw gh scr K.2.1 H')) (h8 : mjHp sc x pc cs H = some (p1, cs', H')) : sxHG K M gh scr sc x pc σ cs H [(p1, st', B', O', G')] :=
  ⟨(p1, st', B', O', G'), List.mem_cons_self, σ', cs', H', h1, h2, h3, h4, h5, h6, h7, h8⟩
theorem nn_clamp {X : Int32} (h : 0 ≤ X.toInt) : ¬ X < 0 ∧ X.toNatClampNeg = X.toInt.toNat := by
  refine ⟨fun q => ?_, rfl⟩
  have := Int32.lt_iff_toInt_lt.mp q
  simp at this
  omega
theorem sxRdI_ok {tg : Nat → Bool} (hB : sxBR (gT gh) σ B) (hH : sxHR K H) (hO : sxOR (sxVw gh scr K.2.1 H) σ O) (hG : sxGR (sxVw gh scr K.2.1 H) σ G) (hs : sxSR σ st cs) (h : sxRdI K tg p B O G st = some l)
    (hm : ∀ (X : Int32) (o t : Nat) (vs : List Value) (v : Value) (r : List Value), cs = .int X :: .ref o :: r → H[o]? = some (t, vs) → tg t = true → ¬ X < 0 → vs[X.toNatClampNeg]? = some v → mjHp sc x pc cs H = some (p, v :: r, H)) : sxHG K M gh scr sc x pc σ cs H l := by
  unfold sxRdI at h
  split at h
  · rename_i n o r
    split at h
    · rename_i l' hl'
      cases h
      obtain ⟨vx, c1, rfl, ⟨X, rfl, hx⟩, h2⟩ := sxSR_c hs
      obtain ⟨vo, c2, rfl, h3, h4⟩ := sxSR_c h2
      cases (show vo = .ref o from h3)
      obtain ⟨t, vs, v, e1, e2, e3, e4, q, hq, σ', f1, f2, f3, f4⟩ := sxRd_ok hB hH hO hG hl' (sxNm_ok hB hx)
      obtain ⟨n1, n2⟩ := nn_clamp e3
      exact ⟨_, List.mem_map.mpr ⟨q, hq, rfl⟩, σ', v :: c2, H, f1, f3, ⟨f2, sxSR.up f1 h4⟩, hH, f4, sxGR.up f1 hG, sxKp.rf, hm X o t vs v c2 rfl e1 e2 n1 (by rw [n2]; exact e4)⟩
    · cases h
  · cases h
theorem sxWrI_ok {tg : Nat → Bool} {k : Bool} (hg : sxGd K gh) (hB : sxBR (gT gh) σ B) (hH : sxHR K H) (hO : sxOR (sxVw gh scr K.2.1 H) σ O) (hG : sxGR (sxVw gh scr K.2.1 H) σ G) (hs : sxSR σ st cs) (h : sxWrI K M tg k p B O G st = some l)
    (hm : ∀ (v : Value) (X : Int32) (o t : Nat) (vs : List Value) (r : List Value) (n : sxN), sxVR σ (.inr (k, n)) v → cs = v :: .int X :: .ref o :: r → H[o]? = some (t, vs) → tg t = true → ¬ X < 0 → X.toNatClampNeg < vs.length → mjHp sc x pc cs H = some (p, r, H.set o (t, vs.set X.toNatClampNeg v))) : sxHG K M gh scr sc x pc σ cs H l := by
  unfold sxWrI at h
  split at h
  · rename_i k2 v n o r
    split at h
    · rename_i ek
      have ek := bEq_ok ek
      subst ek
      split at h
      · rename_i w hw
        cases h
        obtain ⟨vv, c0, rfl, hv, h1⟩ := sxSR_c hs
        obtain ⟨vx, c1, rfl, ⟨X, rfl, hx⟩, h2⟩ := sxSR_c h1
        obtain ⟨vo, c2, rfl, h3, h4⟩ := sxSR_c h2
        cases (show vo = .ref o from h3)
        obtain ⟨t, vs, e1, e2, e3, e4, e5⟩ := sxWr_ok (O' := w.1) (G' := w.2) hg hB hH hO hG hw (sxNm_ok hB hx)
        obtain ⟨f1, f2, f3, f4⟩ := e5 vv hv
        obtain ⟨n1, n2⟩ := nn_clamp e3
        exact .one sxUp.rf hB h4 f1 f2 f3 f4 (by rw [hm vv X o t vs c2 v hv rfl e1 e2 n1 (by rw [n2]; exact e4), n2])
      · cases h
    · cases h
  · cases h
theorem sxOk_ok {ty : FieldType} {n : Nat} {a : sxV} {v : Value} (hB : sxBR (gT gh) σ B) (h : sxOk ty n B a = true) (hv : sxVR σ a v) : mjOk ty n v = true := by
  match a, hv with
  | .inl r, hv => cases (show v = .ref r from hv); exact h
  | .inr (true, _), hv => obtain ⟨x, rfl, -⟩ := hv; unfold sxOk at h; cases ty <;> first | rfl | cases h
  | .inr (false, y), hv =>
    obtain ⟨z, rfl, hz⟩ := hv
    unfold sxOk at h
    cases ty <;> first | rfl | (cases h; done) | skip
    dsimp only at h
    split at h
    · rename_i q hq
      split at h
      · rename_i e1
        have e1 := iLe_ok e1
        have e2 := iLe_ok h
        have e3 := sxRg_ok hB hq hz
        have : z.toInt = 0 ∨ z.toInt = 1 := by omega
        rcases this with h0 | h0
        · have : z = 0 := Int32.toInt_inj.mp (by rw [h0]; rfl)
          subst this
          rfl
        · have : z = 1 := Int32.toInt_inj.mp (by rw [h0]; rfl)
          subst this
          rfl
      · cases h
    · cases h
theorem sxHp_ok {F : sxHn} (hg : sxGd K gh) (hsl : sxSl σ sl scr) (hsc : ∀ n, sl = some n → sc = scr) (h : sxHp K M sl x pc = some F) (hr : F B O G st = some l) (hB : sxBR (gT gh) σ B) (hH : sxHR K H) (hO : sxOR (sxVw gh scr K.2.1 H) σ O) (hG : sxGR (sxVw gh scr K.2.1 H) σ G) (hs : sxSR σ st cs) (hK : K.2.1 < mjScr) :
    (∀ (b : Nat) (cl : mjL), mjAlu x.1 pc b cl cs = none) ∧ sxHG K M gh scr sc x pc σ cs H l := by
  have hscr : K.2.1 ≠ mjScr := by omega
  obtain ⟨i, n, a, b, w⟩ := x
  cases i <;> simp only [sxHp] at h
  case getfield i0 =>
    cases h
    refine ⟨fun _ _ => rfl, ?_⟩
    dsimp only at hr
    split at hr
    · rename_i o r
      split at hr
      · rename_i l' hl'
        cases hr
        obtain ⟨vo, c1, rfl, h1, h2⟩ := sxSR_c hs
        cases (show vo = .ref o from h1)
        obtain ⟨t, vs, v, e1, e2, e3, e4, q, hq, σ', f1, f2, f3, f4⟩ := sxRd_ok hB hH hO hG hl' (X := (b : Int)) ⟨0, hB.1.2, by simp⟩
        have e2 := Nat.eq_of_beq_eq_true e2
        exact ⟨_, List.mem_map.mpr ⟨q, hq, rfl⟩, σ', v :: c1, H, f1, f3, ⟨f2, sxSR.up f1 h2⟩, hH, f4, sxGR.up f1 hG, sxKp.rf, by
          simp only [mjHp, e1, e2, if_true]
          rw [show vs[b]? = some v from e4]⟩
      · cases hr
    · cases hr
  case putfield i0 =>
    cases h
    refine ⟨fun _ _ => rfl, ?_⟩
    dsimp only at hr
    split at hr
    · rename_i v o r
      split at hr
      · rename_i hok
        split at hr
        · rename_i w0 hw
          cases hr
          obtain ⟨vv, c0, rfl, h0, h9⟩ := sxSR_c hs
          obtain ⟨vo, c1, rfl, h1, h2⟩ := sxSR_c h9
          cases (show vo = .ref o from h1)
          obtain ⟨t, vs, e1, e2, e3, e4, e5⟩ := sxWr_ok (O' := w0.1) (G' := w0.2) hg hB hH hO hG hw (X := (b : Int)) ⟨0, hB.1.2, by simp⟩
          have e2 := Nat.eq_of_beq_eq_true e2
          obtain ⟨f1, f2, f3, f4⟩ := e5 vv h0
          have hm := sxOk_ok hB hok h0
          rw [← hH.1] at hm
          refine .one sxUp.rf hB h2 f1 f2 f3 f4 ?_
          simp only [mjHp, e1]
          rw [if_pos ⟨e2, e4, hm⟩]
          rfl
        · cases hr
      · cases hr
    · cases hr
  case arraylength =>
    cases h
    refine ⟨fun _ _ => rfl, ?_⟩
    dsimp only at hr
    split at hr
    · rename_i o r
      obtain ⟨vo, c1, rfl, h1, h2⟩ := sxSR_c hs
      cases (show vo = .ref o from h1)
      split at hr
      · rename_i ho
        have ho := Nat.eq_of_beq_eq_true ho
        cases sl with
        | none => cases hr
        | some n0 =>
          cases hr
          obtain ⟨xs, rfl, hlt, hn⟩ := hsl
          have hsc := hsc n0 rfl
          subst hsc
          refine .one sxUp.rf hB (sxSR.cons ⟨Int32.ofNat xs.length, rfl, ?_⟩ h2) hH hO hG sxKp.rf (by simp only [mjHp, ho, if_true])
          rw [Int32.toInt_ofNat_of_lt (by omega)]
          exact hn
      · rename_i ho
        have ho : ¬ o = mjScr := Nat.ne_of_beq_eq_false ho
        split at hr
        · rename_i c hc
          split at hr
          · rename_i hlt
            have hlt : o < K.2.1 := bltOk hlt
            split at hr
            · rename_i q1
              split at hr
              · rename_i q2
                split at hr
                · rename_i q3
                  cases hr
                  have q1 := Nat.le_of_ble_eq_true q1
                  have q2 : c.1 < 107 := bltOk q2
                  have q3 : c.2.1 < 2147483648 := bltOk q3
                  obtain ⟨e, he, hce⟩ := hH.2 o c hc hlt
                  obtain ⟨t, vs⟩ := e
                  have et : c.1 = t := hce.1.1
                  have el : c.2.1 = vs.length := hce.1.2
                  refine .one sxUp.rf hB (sxSR.cons ⟨Int32.ofNat vs.length, rfl, 0, hB.1.2, ?_⟩ h2) hH hO hG sxKp.rf (by
                    simp only [mjHp, if_neg ho, he]
                    rw [if_pos (by omega)])
                  rw [Int32.toInt_ofNat_of_lt (by omega)]
                  simp [el]
                · cases hr
              · cases hr
            · cases hr
          · cases hr
        · cases hr
    · cases hr
  case iaload =>
    cases h
    refine ⟨fun _ _ => rfl, ?_⟩
    have hr0 := hr
    unfold sxXI at hr
    split at hr
    · rename_i y o r
      split at hr
      · rename_i ho
        have ho : ¬ o = mjScr := Nat.ne_of_beq_eq_false ho
        refine sxRdI_ok hB hH hO hG hs hr (fun X o' t vs v r' e1 e2 e3 e4 e5 => ?_)
        subst e1
        obtain ⟨-, hs2⟩ := hs
        obtain ⟨hs3, -⟩ := hs2
        cases (show Value.ref o' = .ref o from hs3)
        have e3 := Nat.eq_of_beq_eq_true e3
        simp only [mjHp, if_neg ho, e2]
        rw [if_pos ⟨e3, e4⟩, e5]
      · rename_i ho
        have ho := Nat.eq_of_beq_eq_true ho
        subst ho
        cases sl with
        | none => cases hr
        | some n0 =>
          dsimp only at hr
          obtain ⟨xs, rfl, hlt, hn⟩ := hsl
          have hsc := hsc n0 rfl
          subst hsc
          obtain ⟨vx, c1, rfl, ⟨X, rfl, hx⟩, h2⟩ := sxSR_c hs
          obtain ⟨vo, c2, rfl, h3, h4⟩ := sxSR_c h2
          cases (show vo = .ref mjScr from h3)
          split at hr
          · rename_i q1
            split at hr
            · rename_i q2
              have q1 := sxLe_ok hB q1 (X := 0) ⟨0, hB.1.2, by simp⟩ hx
              have q2 := sxLe_ok hB q2 hx hn
              obtain ⟨n1, n2⟩ := nn_clamp (X := X) (by omega)
              have hlen : X.toInt.toNat < xs.length := by omega
              have hvw : sxVw gh (some xs) K.2.1 H mjScr X.toInt.toNat = some (.int xs[X.toInt.toNat]) := by
                unfold sxVw
                rw [if_neg (by omega), if_neg (fun h => hscr h.symm), if_pos rfl]
                dsimp only
                rw [List.getElem?_eq_getElem hlen]
                rfl
              have hmj : mjHp (some xs) (.iaload, n, a, b, w) pc (.int X :: .ref mjScr :: c2) H = some (pc + 1, .int xs[X.toInt.toNat] :: c2, H) := by
                simp only [mjHp, if_true]
                rw [if_neg (by rintro (q | q); exact n1 q; omega), n2]
                rw [List.getD_eq_getElem?_getD, List.getElem?_eq_getElem hlen]
                rfl
              split at hr
              · rename_i v hv
                cases hr
                obtain ⟨z, v', f1, f2, f3, f4⟩ := hO _ (sxOl_mem hv)
                have := sxNR.un hx f1
                subst this
                cases Option.some.inj (hvw.symm.trans f3)
                exact .one sxUp.rf hB (sxSR.cons f4 h4) hH hO hG sxKp.rf hmj
              · cases hr
                obtain ⟨t1, t2⟩ := sxT32 xs[X.toInt.toNat]
                obtain ⟨q, hq, σ', g1, g2, g3, g4⟩ := sxOut_ok (p := .inr (false, -sxM32, sxM32 - 1)) hB hO hx (by omega) hvw ⟨_, rfl, t1, by omega⟩
                exact ⟨_, List.mem_map.mpr ⟨q, hq, rfl⟩, σ', _, H, g1, g3, sxSR.cons g2 (sxSR.up g1 h4), hH, g4, sxGR.up g1 hG, sxKp.rf, hmj⟩
            · cases hr
          · cases hr
    · cases hr
  case laload =>
    cases h
    refine ⟨fun _ _ => rfl, sxRdI_ok hB hH hO hG hs hr (fun X o t vs v r e1 e2 e3 e4 e5 => ?_)⟩
    subst e1
    have e3 := Nat.eq_of_beq_eq_true e3
    simp only [mjHp, e2]
    rw [if_pos ⟨e3, e4⟩, e5]
  case baload =>
    cases h
    refine ⟨fun _ _ => rfl, sxRdI_ok hB hH hO hG hs hr (fun X o t vs v r e1 e2 e3 e4 e5 => ?_)⟩
    subst e1
    have e3 : t = 102 ∨ t = 103 := by
      split at e3
      · rename_i e; exact Or.inl (Nat.eq_of_beq_eq_true e)
      · exact Or.inr (Nat.eq_of_beq_eq_true e3)
    simp only [mjHp, e2]
    rw [if_pos ⟨e3, e4⟩, e5]
  case aaload =>
    cases h
    refine ⟨fun _ _ => rfl, sxRdI_ok hB hH hO hG hs hr (fun X o t vs v r e1 e2 e3 e4 e5 => ?_)⟩
    subst e1
    have e3 : t = 104 ∨ t = 105 ∨ t = 106 := by
      split at e3
      · rename_i e
        have e := Nat.le_of_ble_eq_true e
        have e3 := Nat.le_of_ble_eq_true e3
        omega
      · cases e3
    simp only [mjHp, e2]
    rw [if_pos ⟨e3, e4⟩, e5]
  case iastore =>
    cases h
    refine ⟨fun _ _ => rfl, sxWrI_ok hg hB hH hO hG hs hr (fun v X o t vs r n0 hv e1 e2 e3 e4 e5 => ?_)⟩
    subst e1
    obtain ⟨z, rfl, -⟩ := hv
    have e3 := Nat.eq_of_beq_eq_true e3
    simp only [mjHp, e2]
    rw [if_pos ⟨e3, e4, e5⟩]
  case lastore =>
    cases h
    refine ⟨fun _ _ => rfl, sxWrI_ok hg hB hH hO hG hs hr (fun v X o t vs r n0 hv e1 e2 e3 e4 e5 => ?_)⟩
    subst e1
    obtain ⟨z, rfl, -⟩ := hv
    have e3 := Nat.eq_of_beq_eq_true e3
    simp only [mjHp, e2]
    rw [if_pos ⟨e3, e4, e5⟩]
  case bastore =>
    cases h
    refine ⟨fun _ _ => rfl, ?_⟩
    unfold sxBst at hr
    split at hr
    · rename_i v y o r
      obtain ⟨vv, c0, rfl, ⟨Z, rfl, hz⟩, h1⟩ := sxSR_c hs
      obtain ⟨vx, c1, rfl, ⟨X, rfl, hx⟩, h2⟩ := sxSR_c h1
      obtain ⟨vo, c2, rfl, h3, h4⟩ := sxSR_c h2
      cases (show vo = .ref o from h3)
      split at hr
      · cases hr
      · rename_i c hc
        split at hr
        · split at hr
          · rename_i w0 hw0
            split at hr
            · rename_i z0 hz0
              cases hr
              have e : Z.toInt8.toInt32.toInt = Z.toInt.bmod (2 ^ 8) := by rw [Int8.toInt_toInt32, Int32.toInt_toInt8]
              have e1 : -(2 ^ 8 / 2 : Int) ≤ Z.toInt.bmod (2 ^ 8) := Int.le_bmod (by decide)
              have e2 : Z.toInt.bmod (2 ^ 8) < (2 ^ 8 + 1) / 2 := Int.bmod_lt (by decide)
              obtain ⟨σ', g1, g2, g3⟩ := sxNar_ok (z := Z.toInt8.toInt32.toInt) hB hw0 hz (fun h1 h2 => by rw [e]; exact Int.bmod_eq_of_le (by omega) (by omega)) (by rw [e]; omega) (by rw [e]; omega)
              obtain ⟨t, vs, f1, f2, f3, f4, f5⟩ := sxWr_ok (O' := z0.1) (G' := z0.2) hg g2 hH (hO.up g1) (hG.up g1) hz0 (sxNR.up (sxNm_ok hB hx) g1)
              obtain ⟨k1, k2, k3, k4⟩ := f5 (.int Z.toInt8.toInt32) ⟨_, rfl, g3⟩
              obtain ⟨n1, n2⟩ := nn_clamp f3
              have f2 := Nat.eq_of_beq_eq_true f2
              refine .one g1 g2 (sxSR.up g1 h4) k1 k2 k3 k4 ?_
              simp only [mjHp, f1]
              rw [if_pos ⟨f2, n1, by rw [n2]; exact f4⟩, n2]
            · cases hr
          · cases hr
        · split at hr
          · rename_i q0 hq0
            split at hr
            · rename_i p1
              split at hr
              · rename_i p2
                split at hr
                · rename_i z0 hz0
                  cases hr
                  have p1 := iLe_ok p1
                  have p2 := iLe_ok p2
                  have p3 := sxRg_ok hB hq0 hz
                  have hz1 : Z &&& 1 = Z := by
                    have : Z.toInt = 0 ∨ Z.toInt = 1 := by omega
                    rcases this with h0 | h0
                    · have : Z = 0 := Int32.toInt_inj.mp (by rw [h0]; rfl)
                      subst this
                      rfl
                    · have : Z = 1 := Int32.toInt_inj.mp (by rw [h0]; rfl)
                      subst this
                      rfl
                  obtain ⟨t, vs, f1, f2, f3, f4, f5⟩ := sxWr_ok (O' := z0.1) (G' := z0.2) hg hB hH hO hG hz0 (sxNm_ok hB hx)
                  obtain ⟨k1, k2, k3, k4⟩ := f5 (.int Z) ⟨_, rfl, hz⟩
                  obtain ⟨n1, n2⟩ := nn_clamp f3
                  have f2 := Nat.eq_of_beq_eq_true f2
                  refine .one sxUp.rf hB h4 k1 k2 k3 k4 ?_
                  simp only [mjHp, f1]
                  rw [if_neg (by omega), if_pos ⟨f2, n1, by rw [n2]; exact f4⟩, n2, hz1]
                · cases hr
              · cases hr
            · cases hr
          · cases hr
    · cases hr
  case ldc i0 =>
    refine ⟨fun _ _ => rfl, ?_⟩
    cases b with
    | zero =>
      dsimp only at h
      cases hlt : Nat.blt a 2147483648 with
      | true =>
        rw [hlt] at h
        cases h
        cases hr
        have hlt : a < 2147483648 := bltOk hlt
        exact .one sxUp.rf hB (sxSR.cons ⟨Int32.ofNat a, rfl, 0, hB.1.2, by rw [Int32.toInt_ofNat_of_lt (by omega)]; simp⟩ hs) hH hO hG sxKp.rf (by simp only [mjHp, if_true])
      | false =>
        rw [hlt] at h
        cases h
        cases hr
    | succ k =>
      cases h
      cases hr
      exact .one sxUp.rf hB (sxSR.cons rfl hs) hH hO hG sxKp.rf (by simp only [mjHp]; rw [if_neg (by omega)])
  case ldc_w i0 =>
    refine ⟨fun _ _ => rfl, ?_⟩
    cases b with
    | zero =>
      dsimp only at h
      cases hlt : Nat.blt a 2147483648 with
      | true =>
        rw [hlt] at h
        cases h
        cases hr
        have hlt : a < 2147483648 := bltOk hlt
        exact .one sxUp.rf hB (sxSR.cons ⟨Int32.ofNat a, rfl, 0, hB.1.2, by rw [Int32.toInt_ofNat_of_lt (by omega)]; simp⟩ hs) hH hO hG sxKp.rf (by simp only [mjHp, if_true])
      | false =>
        rw [hlt] at h
        cases h
        cases hr
    | succ k =>
      cases h
      cases hr
  case ldc2_w i0 =>
    refine ⟨fun _ _ => rfl, ?_⟩
    cases hlt : Nat.blt a 9223372036854775808 with
    | true =>
      rw [hlt] at h
      cases h
      cases hr
      have hlt : a < 9223372036854775808 := bltOk hlt
      exact .one sxUp.rf hB (sxSR.cons ⟨Int64.ofNat a, rfl, 0, hB.1.2, by rw [Int64.toInt_ofNat_of_lt (by omega)]; simp⟩ hs) hH hO hG sxKp.rf rfl
    | false =>
      rw [hlt] at h
      dsimp only at h
      cases hl2 : Nat.blt a 18446744073709551616 with
      | true =>
        rw [hl2] at h
        dsimp only at h
        rw [iFc_eq] at h
        cases h
        cases hr
        have h1 : ¬ a < 9223372036854775808 := fun q => by
          have : Nat.blt a 9223372036854775808 = true := Nat.ble_eq.mpr q
          rw [this] at hlt
          cases hlt
        have h2 : a < 18446744073709551616 := bltOk hl2
        exact .one sxUp.rf hB (sxSR.cons ⟨Int64.ofNat a, rfl, 0, hB.1.2, by rw [i64_neg (by omega) h2]; simp⟩ hs) hH hO hG sxKp.rf rfl
      | false =>
      rw [hl2] at h
      cases h
      obtain ⟨t1, t2⟩ := sxT64 (Int64.ofNat a)
      obtain ⟨σ', g1, g2, g3⟩ := sxAny_ok (m := sxM64) hB t1 t2
      cases hr
      exact .one g1 g2 (sxSR.cons ⟨Int64.ofNat a, rfl, g3⟩ (sxSR.up g1 hs)) hH (hO.up g1) (hG.up g1) sxKp.rf rfl
  all_goals (cases h)
end SXHP

/-! AJ: reading and writing -/
section AJHP
abbrev aHn : Type := List aV → aH → Option (Nat × List aV × aH)
def aOk (ty : FieldType) (n : Nat) (a : aV) : Bool := match a with
  | .inl w => mjOk ty n w
  | .inr (false, _, _) => match ty with | .int => true | _ => false
  | .inr (true, _, _) => match ty with | .long => true | _ => false
theorem aOk_ok {ty : FieldType} {n : Nat} {a : aV} {v : Value} (h : aOk ty n a = true) (hv : aVR a v) : mjOk ty n v = true := by
  match a, hv with
  | .inl w, hv => cases (show v = w from hv); exact h
  | .inr (false, lo, hi), hv => obtain ⟨x, rfl, -⟩ := hv; unfold aOk at h; cases ty <;> first | rfl | cases h
  | .inr (true, lo, hi), hv => obtain ⟨x, rfl, -⟩ := hv; unfold aOk at h; cases ty <;> first | rfl | cases h
def aGf (a b p : Nat) : aHn := fun st hp => match st with
  | .inl (.ref o) :: r => match aHget hp o with
    | some c => if c.1 = a then (match aCget c b with | some v => some (p, v :: r, hp) | none => none) else none
    | none => none
  | _ => none
def aPf (a b p : Nat) : aHn := fun st hp => match st with
  | v :: .inl (.ref o) :: r => match aHget hp o with
    | some c => if c.1 = a ∧ b < c.2.1 ∧ aOk (mjTy a b) hp.1 v = true then some (p, r, aHset hp o (aCset c b v)) else none
    | none => none
  | _ => none
def aLen (scr : Option (List aV)) (p : Nat) : aHn := fun st hp => match st with
  | .inl (.ref o) :: r => if o = mjScr then (match scr with | some xs => some (p, .inl (.int (Int32.ofNat xs.length)) :: r, hp) | none => none)
    else match aHget hp o with
      | some c => if 100 ≤ c.1 ∧ c.1 < 107 then some (p, .inl (.int (Int32.ofNat c.2.1)) :: r, hp) else none
      | none => none
  | _ => none
def aXl (tg : Nat → Bool) (p : Nat) : aHn := fun st hp => match st with
  | i :: .inl (.ref o) :: r => match aHget hp o with
    | some c => if tg c.1 = true then (match aRd c i with | some v => some (p, v :: r, hp) | none => none) else none
    | none => none
  | _ => none
def aXi (scr : Option (List aV)) (p : Nat) : aHn := fun st hp => match st with
  | i :: .inl (.ref o) :: r => if o = mjScr then (match scr, i with
      | some xs, .inl (.int k) => if k < 0 then none else match xs[k.toNatClampNeg]? with | some v => some (p, v :: r, hp) | none => none
      | _, _ => none)
    else aXl (fun t => t == 100) p st hp
  | _ => none
def aXs (tg : Nat → Bool) (kd : Nat) (g : Nat → aV → Option aV) (p : Nat) : aHn := fun st hp => match st with
  | v :: .inl (.int i) :: .inl (.ref o) :: r => match aHget hp o with
    | some c => if tg c.1 = true ∧ aK v = kd ∧ ¬ i < 0 ∧ i.toNatClampNeg < c.2.1 then (match g c.1 v with | some w => some (p, r, aHset hp o (aCset c i.toNatClampNeg w)) | none => none) else none
    | none => none
  | _ => none
def aByte (t : Nat) (v : aV) : Option aV := match v with
  | .inl (.int x) => some (.inl (.int (if t = 102 then x.toInt8.toInt32 else x &&& 1)))
  | .inr (false, _, _) => if t = 102 then some aAnyI else none
  | _ => none
def aAs (p : Nat) : aHn := fun st hp => match st with
  | .inl (.ref v) :: .inl (.int i) :: .inl (.ref o) :: r => match aHget hp o, aHget hp v with
    | some c, some c2 => if ((c.1 = 104 ∧ c2.1 = 2) ∨ (c.1 = 105 ∧ c2.1 = 5)) ∧ ¬ i < 0 ∧ i.toNatClampNeg < c.2.1 then some (p, r, aHset hp o (aCset c i.toNatClampNeg (.inl (.ref v)))) else none
    | _, _ => none
  | _ => none
def aHp (scr : Option (List aV)) (x : mjX) (pc : Nat) : Option aHn := match x.1 with
  | .getfield _ => some (aGf x.2.2.1 x.2.2.2.1 (pc + 3))
  | .putfield _ => some (aPf x.2.2.1 x.2.2.2.1 (pc + 3))
  | .arraylength => some (aLen scr (pc + 1))
  | .iaload => some (aXi scr (pc + 1))
  | .laload => some (aXl (fun t => t == 101) (pc + 1))
  | .baload => some (aXl (fun t => t == 102 || t == 103) (pc + 1))
  | .aaload => some (aXl (fun t => t == 104 || (t == 105 || t == 106)) (pc + 1))
  | .iastore => some (aXs (fun t => t == 100) 0 (fun _ v => some v) (pc + 1))
  | .lastore => some (aXs (fun t => t == 101) 1 (fun _ v => some v) (pc + 1))
  | .bastore => some (aXs (fun t => t == 102 || t == 103) 0 aByte (pc + 1))
  | .aastore => some (aAs (pc + 1))
  | .ldc _ => some (fun st hp => some (pc + 2, .inl (if x.2.2.2.1 = 0 then .int (Int32.ofNat x.2.2.1) else .ref (mjS0 + x.2.2.1)) :: st, hp))
  | .ldc_w _ => some (fun st hp => if x.2.2.2.1 = 0 then some (pc + 3, .inl (.int (Int32.ofNat x.2.2.1)) :: st, hp) else none)
  | .ldc2_w _ => some (fun st hp => some (pc + 3, .inl (.long (Int64.ofNat x.2.2.1)) :: st, hp))
  | _ => none
variable {scrA : Option (List aV)} {scr : Option (List Int32)} {x : mjX} {pc p' p : Nat} {st st' : List aV} {hp hp' : aH} {cs : List Value} {H : mjH}
theorem aXl_ok {tg : Nat → Bool} (h : aXl tg p st hp = some (p', st', hp')) (hs : aSR st cs) (hh : aHR hp H) : ∃ (k : Int32) (o t : Nat) (vs : List Value) (v : Value) (r : List Value), cs = .int k :: .ref o :: r ∧ H[o]? = some (t, vs) ∧ tg t = true ∧ ¬ k < 0 ∧ vs[k.toNatClampNeg]? = some v ∧ p' = p ∧ aSR st' (v :: r) ∧ hp' = hp := by
  unfold aXl at h
  split at h
  · rename_i i o r
    obtain ⟨vi, c1, rfl, h1, h2⟩ := aSR_c hs
    obtain ⟨vo, c2, rfl, h3, h4⟩ := aSR_c h2
    cases (show vo = .ref o from h3)
    split at h
    · rename_i c hc
      split at h
      · rename_i ht
        split at h
        · rename_i v hv
          cases h
          obtain ⟨t, vs, e1, e2⟩ := hh.get hc
          obtain ⟨k, w, rfl, g1, g2, g3⟩ := aRd_ok e2 hv h1
          refine ⟨k, o, t, vs, w, c2, rfl, e1, ?_, g1, g2, rfl, ⟨g3, h4⟩, rfl⟩
          rw [← (show c.1 = t from e2.1)]
          exact ht
        · cases h
      · cases h
    · cases h
  · cases h
theorem aXs_ok {tg : Nat → Bool} {kd : Nat} {g : Nat → aV → Option aV} (h : aXs tg kd g p st hp = some (p', st', hp')) (hs : aSR st cs) (hh : aHR hp H) : ∃ (v w : aV) (vv : Value) (i : Int32) (o t : Nat) (vs : List Value) (r : List Value), aK v = kd ∧ aVR v vv ∧ g t v = some w ∧ cs = vv :: .int i :: .ref o :: r ∧ H[o]? = some (t, vs) ∧ tg t = true ∧ ¬ i < 0 ∧ i.toNatClampNeg < vs.length ∧ p' = p ∧ aSR st' r ∧
    ∀ z, aVR w z → aHR hp' (H.set o (t, vs.set i.toNatClampNeg z)) := by
  unfold aXs at h
  split at h
  · rename_i v i o r
    obtain ⟨vv, c1, rfl, h1, h2⟩ := aSR_c hs
    obtain ⟨vi, c2, rfl, h3, h4⟩ := aSR_c h2
    obtain ⟨vo, c3, rfl, h5, h6⟩ := aSR_c h4
    cases (show vi = .int i from h3)
    cases (show vo = .ref o from h5)
    split at h
    · rename_i c hc
      split at h
      · rename_i ht
        split at h
        · rename_i w hw
          cases h
          obtain ⟨t, vs, e1, e2⟩ := hh.get hc
          have et : c.1 = t := e2.1
          have el : c.2.1 = vs.length := e2.2.1
          refine ⟨v, w, vv, i, o, t, vs, c3, ht.2.1, h1, by rw [← et]; exact hw, rfl, e1, by rw [← et]; exact ht.1, ht.2.2.1, by rw [← el]; exact ht.2.2.2, rfl, h6, fun z hz => hh.set hc (e2.set ht.2.2.2 hz)⟩
        · cases h
      · cases h
    · cases h
  · cases h
theorem aHp_ok {F : aHn} (h : aHp scrA x pc = some F) (hr : F st hp = some (p', st', hp')) (hs : aSR st cs) (hh : aHR hp H) (hx : aXR scrA scr) : (∀ (b : Nat) (cl : mjL), mjAlu x.1 pc b cl cs = none) ∧ ∃ (cs' : List Value) (H' : mjH), mjHp scr x pc cs H = some (p', cs', H') ∧ aSR st' cs' ∧ aHR hp' H' := by
  obtain ⟨i, n, a, b, w⟩ := x
  cases i <;> simp only [aHp] at h
  case getfield =>
    cases h
    refine ⟨fun _ _ => rfl, ?_⟩
    unfold aGf at hr
    split at hr
    · rename_i o r
      obtain ⟨vo, c1, rfl, h1, h2⟩ := aSR_c hs
      cases (show vo = .ref o from h1)
      split at hr
      · rename_i c hc
        split at hr
        · rename_i ht
          split at hr
          · rename_i v hv
            cases hr
            obtain ⟨t, vs, e1, e2⟩ := hh.get hc
            obtain ⟨vv, e3, e4⟩ := e2.get hv
            have et : t = a := (show c.1 = t from e2.1).symm.trans ht
            exact ⟨vv :: c1, H, by simp only [mjHp, e1, et, e3, if_true], ⟨e4, h2⟩, hh⟩
          · cases hr
        · cases hr
      · cases hr
    · cases hr
  case putfield =>
    cases h
    refine ⟨fun _ _ => rfl, ?_⟩
    unfold aPf at hr
    split at hr
    · rename_i v o r
      obtain ⟨vv, c0, rfl, h0, h9⟩ := aSR_c hs
      obtain ⟨vo, c1, rfl, h1, h2⟩ := aSR_c h9
      cases (show vo = .ref o from h1)
      split at hr
      · rename_i c hc
        split at hr
        · rename_i ht
          cases hr
          obtain ⟨t, vs, e1, e2⟩ := hh.get hc
          have et : c.1 = t := e2.1
          have el : c.2.1 = vs.length := e2.2.1
          have hok := aOk_ok ht.2.2 h0
          rw [hh.1] at hok
          refine ⟨c1, H.set o (t, vs.set b vv), ?_, h2, hh.set hc (e2.set ht.2.1 h0)⟩
          simp only [mjHp, e1]
          rw [if_pos ⟨et.symm.trans ht.1, by rw [← el]; exact ht.2.1, hok⟩]
        · cases hr
      · cases hr
    · cases hr
  case arraylength =>
    cases h
    refine ⟨fun _ _ => rfl, ?_⟩
    unfold aLen at hr
    split at hr
    · rename_i o r
      obtain ⟨vo, c1, rfl, h1, h2⟩ := aSR_c hs
      cases (show vo = .ref o from h1)
      split at hr
      · rename_i ho
        split at hr
        · rename_i xs
          cases hr
          cases scr with
          | none => exact hx.elim
          | some ys =>
            have hlen := aSR_len hx
            rw [List.length_map] at hlen
            exact ⟨.int (Int32.ofNat ys.length) :: c1, H, by simp only [mjHp, ho, if_true], ⟨by rw [hlen]; rfl, h2⟩, hh⟩
        · cases hr
      · rename_i ho
        split at hr
        · rename_i c hc
          split at hr
          · rename_i ht
            cases hr
            obtain ⟨t, vs, e1, e2⟩ := hh.get hc
            have et : c.1 = t := e2.1
            have el : c.2.1 = vs.length := e2.2.1
            rw [et] at ht
            refine ⟨.int (Int32.ofNat vs.length) :: c1, H, by simp only [mjHp, if_neg ho, e1]; rw [if_pos ht], ⟨by rw [el]; rfl, h2⟩, hh⟩
          · cases hr
        · cases hr
    · cases hr
  case iaload =>
    cases h
    refine ⟨fun _ _ => rfl, ?_⟩
    unfold aXi at hr
    split at hr
    · rename_i i o r
      split at hr
      · rename_i ho
        obtain ⟨vi, c0, rfl, h0, h9⟩ := aSR_c hs
        obtain ⟨vo, c1, rfl, h1, h2⟩ := aSR_c h9
        cases (show vo = .ref o from h1)
        split at hr
        · rename_i xs k
          cases (show vi = .int k from h0)
          split at hr
          · cases hr
          · rename_i hk
            split at hr
            · rename_i v hv
              cases hr
              cases scr with
              | none => exact hx.elim
              | some ys =>
                obtain ⟨vv, e1, e2⟩ := aSR_get hx hv
                rw [List.getElem?_map] at e1
                cases hy : ys[k.toNatClampNeg]? with
                | none => rw [hy] at e1; cases e1
                | some y =>
                  rw [hy] at e1
                  cases e1
                  have hlt := (List.getElem?_eq_some_iff.mp hy).1
                  refine ⟨.int y :: c1, H, ?_, ⟨e2, h2⟩, hh⟩
                  simp only [mjHp, ho, if_true]
                  rw [if_neg (by rintro (q | q); exact hk q; omega)]
                  simp [List.getD_eq_getElem?_getD, hy]
            · cases hr
        · cases hr
      · rename_i ho
        obtain ⟨k, o', t, vs, v, r', rfl, e1, e2, e3, e4, rfl, e5, rfl⟩ := aXl_ok hr hs hh
        obtain ⟨-, h9⟩ := hs
        obtain ⟨h10, -⟩ := h9
        cases (show Value.ref o' = .ref o from h10)
        have ht : t = 100 := by simpa using e2
        exact ⟨v :: r', H, by simp only [mjHp, if_neg ho, e1, ht, e3, e4]; simp, e5, hh⟩
    · cases hr
  case laload =>
    cases h
    refine ⟨fun _ _ => rfl, ?_⟩
    obtain ⟨k, o', t, vs, v, r', rfl, e1, e2, e3, e4, rfl, e5, rfl⟩ := aXl_ok hr hs hh
    have ht : t = 101 := by simpa using e2
    exact ⟨v :: r', H, by simp only [mjHp, e1, ht, e3, e4]; simp, e5, hh⟩
  case baload =>
    cases h
    refine ⟨fun _ _ => rfl, ?_⟩
    obtain ⟨k, o', t, vs, v, r', rfl, e1, e2, e3, e4, rfl, e5, rfl⟩ := aXl_ok hr hs hh
    have ht : t = 102 ∨ t = 103 := by simpa using e2
    exact ⟨v :: r', H, by simp only [mjHp, e1, e4]; rw [if_pos ⟨ht, e3⟩], e5, hh⟩
  case aaload =>
    cases h
    refine ⟨fun _ _ => rfl, ?_⟩
    obtain ⟨k, o', t, vs, v, r', rfl, e1, e2, e3, e4, rfl, e5, rfl⟩ := aXl_ok hr hs hh
    have ht : t = 104 ∨ t = 105 ∨ t = 106 := by simpa using e2
    exact ⟨v :: r', H, by simp only [mjHp, e1, e4]; rw [if_pos ⟨ht, e3⟩], e5, hh⟩
  case iastore =>
    cases h
    refine ⟨fun _ _ => rfl, ?_⟩
    obtain ⟨v, w', vv, i, o, t, vs, r, hk, h1, hg, rfl, e1, e2, e3, e4, rfl, e5, e6⟩ := aXs_ok hr hs hh
    cases hg
    obtain ⟨z, rfl⟩ := aK0 h1 hk
    have ht : t = 100 := by simpa using e2
    exact ⟨r, H.set o (t, vs.set i.toNatClampNeg (.int z)), by simp only [mjHp, e1]; rw [if_pos ⟨ht, e3, e4⟩], e5, e6 _ h1⟩
  case lastore =>
    cases h
    refine ⟨fun _ _ => rfl, ?_⟩
    obtain ⟨v, w', vv, i, o, t, vs, r, hk, h1, hg, rfl, e1, e2, e3, e4, rfl, e5, e6⟩ := aXs_ok hr hs hh
    cases hg
    obtain ⟨z, rfl⟩ := aK1 h1 hk
    have ht : t = 101 := by simpa using e2
    exact ⟨r, H.set o (t, vs.set i.toNatClampNeg (.long z)), by simp only [mjHp, e1]; rw [if_pos ⟨ht, e3, e4⟩], e5, e6 _ h1⟩
  case bastore =>
    cases h
    refine ⟨fun _ _ => rfl, ?_⟩
    obtain ⟨v, w', vv, i, o, t, vs, r, hk, h1, hg, rfl, e1, e2, e3, e4, rfl, e5, e6⟩ := aXs_ok hr hs hh
    have ht : t = 102 ∨ t = 103 := by simpa using e2
    unfold aByte at hg
    split at hg
    · rename_i z
      cases hg
      cases (show vv = .int z from h1)
      by_cases h102 : t = 102
      · refine ⟨r, H.set o (t, vs.set i.toNatClampNeg (.int z.toInt8.toInt32)), by simp only [mjHp, e1]; rw [if_pos ⟨h102, e3, e4⟩], e5, e6 _ ?_⟩
        rw [if_pos h102]
        rfl
      · refine ⟨r, H.set o (t, vs.set i.toNatClampNeg (.int (z &&& 1))), by simp only [mjHp, e1]; rw [if_neg (fun q => h102 q.1), if_pos ⟨ht.resolve_left h102, e3, e4⟩], e5, e6 _ ?_⟩
        rw [if_neg h102]
        rfl
    · split at hg
      · rename_i h102
        cases hg
        obtain ⟨z, rfl, -⟩ := h1
        exact ⟨r, H.set o (t, vs.set i.toNatClampNeg (.int z.toInt8.toInt32)), by simp only [mjHp, e1]; rw [if_pos ⟨h102, e3, e4⟩], e5, e6 _ (aAnyI_r _)⟩
      · cases hg
    · cases hg
  case aastore =>
    cases h
    refine ⟨fun _ _ => rfl, ?_⟩
    unfold aAs at hr
    split at hr
    · rename_i v i o r
      obtain ⟨vv, c0, rfl, h0, h9⟩ := aSR_c hs
      obtain ⟨vi, c1, rfl, h1, h8⟩ := aSR_c h9
      obtain ⟨vo, c2, rfl, h2, h7⟩ := aSR_c h8
      cases (show vv = .ref v from h0)
      cases (show vi = .int i from h1)
      cases (show vo = .ref o from h2)
      split at hr
      · rename_i c d hc hd
        split at hr
        · rename_i ht
          cases hr
          obtain ⟨t, vs, e1, e2⟩ := hh.get hc
          obtain ⟨t2, vs2, e3, e4⟩ := hh.get hd
          have et : c.1 = t := e2.1
          have el : c.2.1 = vs.length := e2.2.1
          have et2 : d.1 = t2 := e4.1
          rw [et, et2, el] at ht
          refine ⟨c2, H.set o (t, vs.set i.toNatClampNeg (.ref v)), by simp only [mjHp, e1, e3]; rw [if_pos ht], h7, hh.set hc (e2.set (by rw [el]; exact ht.2.2) rfl)⟩
        · cases hr
      · cases hr
    · cases hr
  case ldc => cases h; cases hr; exact ⟨fun _ _ => rfl, _, _, rfl, ⟨rfl, hs⟩, hh⟩
  case ldc_w =>
    cases h
    refine ⟨fun _ _ => rfl, ?_⟩
    dsimp only at hr
    split at hr
    · rename_i h0
      cases hr
      exact ⟨.int (Int32.ofNat a) :: cs, H, by simp only [mjHp]; rw [if_pos h0], ⟨rfl, hs⟩, hh⟩
    · cases hr
  case ldc2_w => cases h; cases hr; exact ⟨fun _ _ => rfl, _, _, rfl, ⟨rfl, hs⟩, hh⟩
  all_goals cases h
end AJHP

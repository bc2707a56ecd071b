/-! SX: instructions on locals and stack -/
noncomputable section SXINS
abbrev sxQ : Type := Nat × sxL × List sxV × sxB
abbrev sxFn : Type := sxB → sxL → List sxV → Option (List sxQ)
/-- one of the ways is the machine's -/
def sxAG (T : Nat) (n : Nat) (i : Instr) (pc b : Nat) (σ : List Int) (cl : mjL) (cs : List Value) (l : List sxQ) : Prop := ∃ q ∈ l, ∃ (σ' : List Int) (cl' : mjL) (cs' : List Value), sxUp σ σ' ∧ sxBR T σ' q.2.2.2 ∧ sxLR n σ' q.2.1 cl' ∧ sxSR σ' q.2.2.1 cs' ∧ mjAlu i pc b cl cs = some (q.1, cl', cs')
def bEq (a b : Bool) : Bool := match a with | true => b | false => (match b with | true => false | false => true)
theorem bEq_ok {a b : Bool} (h : bEq a b = true) : a = b := by cases a <;> cases b <;> first | rfl | cases h
def sxPu (p : Nat) (v : sxV) : sxFn := fun B ls st => some [(p, ls, v :: st, B)]
def sxPuI (p : Nat) (lo hi k : Int) : sxFn := fun B ls st => match iLe lo k with
  | true => (match iLe k hi with | true => some [(p, ls, .inr (false, (0, k)) :: st, B)] | false => none)
  | false => none
def sxLd (kd k p : Nat) : sxFn := fun B ls st => match sxGt ls k with
  | some a => (match Nat.beq (sxK a) kd with | true => some [(p, ls, a :: st, B)] | false => none)
  | none => none
def sxSo (kd k p : Nat) : sxFn := fun B ls st => match st with
  | a :: r => (match Nat.beq (sxK a) kd with | true => some [(p, sxStO k a ls, r, B)] | false => none)
  | _ => none
def sxSr (n k p : Nat) : sxFn := fun B ls st => match st with
  | a :: r => (match Nat.beq (sxK a) 2 with
    | true => (match sxSc n a with | true => some [(p, sxStO k a ls, r, B)] | false => none)
    | false => none)
  | _ => none
def sxSw (kd k p : Nat) : sxFn := fun B ls st => match st with
  | a :: r => (match Nat.beq (sxK a) kd with | true => some [(p, sxStT k a ls, r, B)] | false => none)
  | _ => none
def sxInc (k : Nat) (n : Int) (p : Nat) : sxFn := fun B ls st => match sxRm sxM32 n n with
  | true => (match sxGt ls k with
    | some (.inr (false, x)) => (match sxRemI sxM32 5 (sxAdd sxM32) B x (0, n) with
      | some w => some [(p, sxStO k (.inr (false, w.2)) ls, st, w.1)]
      | none => none)
    | _ => none)
  | false => none
def sxBin (ky kx kr : Bool) (g : sxB → sxN → sxN → Option (sxB × sxN)) (p : Nat) : sxFn := fun B ls st => match st with
  | .inr (k1, y) :: .inr (k2, x) :: r => (match bEq k1 ky with
    | true => (match bEq k2 kx with
      | true => (match g B x y with
        | some w => some [(p, ls, .inr (kr, w.2) :: r, w.1)]
        | none => none)
      | false => none)
    | false => none)
  | _ => none
def sxUn (kx kr : Bool) (g : sxB → sxN → Option (sxB × sxN)) (p : Nat) : sxFn := fun B ls st => match st with
  | .inr (k2, x) :: r => (match bEq k2 kx with
    | true => (match g B x with
      | some w => some [(p, ls, .inr (kr, w.2) :: r, w.1)]
      | none => none)
    | false => none)
  | _ => none
def sxLc (p : Nat) : sxFn := fun B ls st => match st with
  | .inr (true, y) :: .inr (true, x) :: r => some ((sxLtC B x y).map (fun B => (p, ls, .inr (false, (0, -1)) :: r, B)) ++ ((sxEqC B x y).map (fun B => (p, ls, .inr (false, (0, 0)) :: r, B)) ++ (sxLtC B y x).map (fun B => (p, ls, .inr (false, (0, 1)) :: r, B))))
  | _ => none
def sxIf1 (c : Jvm.ClassFile.Cond) (b p : Nat) : sxFn := fun B ls st => match st with
  | .inr (false, x) :: r => some ((sxBr c B x (0, 0)).map (fun q => (match q.1 with | true => b | false => p, ls, r, q.2)))
  | _ => none
def sxIf2 (c : Jvm.ClassFile.Cond) (b p : Nat) : sxFn := fun B ls st => match st with
  | .inr (false, y) :: .inr (false, x) :: r => some ((sxBr c B x y).map (fun q => (match q.1 with | true => b | false => p, ls, r, q.2)))
  | _ => none
/-- a switch: by its numbers one by one; else -/
def sxKey (i : Instr) (pc b : Nat) (B : sxB) (x : sxN) (ls : sxL) (r : List sxV) : List Int → Option (List sxQ)
  | [] => some []
  | v :: vs => match sxRm sxM32 v v with
    | true => (match mjAlu i pc b [] [.int (Int32.ofInt v)] with
      | some (p, _, _) => (match sxKey i pc b B x ls r vs with
        | some l => some ((sxEqC B x (0, v)).map (fun B => (p, ls, r, B)) ++ l)
        | none => none)
      | none => none)
    | false => none
def sxTg (pc : Nat) (o : Int) : Option Nat := match Int.ofNat pc + o with
  | .ofNat n => some n
  | .negSucc _ => none
def sxOne (i : Instr) (pc b : Nat) (B : sxB) (v : Int) (ls : sxL) (r : List sxV) : Option (List sxQ) := match sxRm sxM32 v v with
  | true => (match mjAlu i pc b [] [.int (Int32.ofInt v)] with
    | some (p, _, _) => some [(p, ls, r, B)]
    | none => none)
  | false => none
def sxTab (d lo hi : Int) (o : Array Int) (pc b : Nat) : sxFn := fun B ls st => match st with
  | .inr (false, (0, v)) :: r => sxOne (.tableswitch d lo hi o) pc b B v ls r
  | .inr (false, (s + 1, c)) :: r => (match sxKey (.tableswitch d lo hi o) pc b B (s + 1, c) ls r ((List.range (hi - lo + 1).toNat).map (fun j => lo + Int.ofNat j)) with
    | some l => (match sxTg pc d with
      | some p => some (l ++ ((sxLtC B (s + 1, c) (0, lo)).map (fun B => (p, ls, r, B)) ++ (sxLtC B (0, hi) (s + 1, c)).map (fun B => (p, ls, r, B))))
      | none => none)
    | none => none)
  | _ => none
/-- none of these numbers -/
def sxMis (B : sxB) (x : sxN) : List Int → List sxB
  | [] => [B]
  | v :: vs => (sxLtC B x (0, v)).flatMap (fun B => sxMis B x vs) ++ (sxLtC B (0, v) x).flatMap (fun B => sxMis B x vs)
def sxLkp (d : Int) (ps : Array (Int × Int)) (pc b : Nat) : sxFn := fun B ls st => match st with
  | .inr (false, (0, v)) :: r => sxOne (.lookupswitch d ps) pc b B v ls r
  | .inr (false, (s + 1, c)) :: r => (match sxKey (.lookupswitch d ps) pc b B (s + 1, c) ls r (ps.toList.map (fun q => q.1)) with
    | some l => (match sxTg pc d with
      | some p => (match (ps.toList.zip (ps.toList.drop 1)).all (fun (a, next) => a.1 < next.1) with
        | true => some (l ++ (sxMis B (s + 1, c) (ps.toList.map (fun q => q.1))).map (fun B => (p, ls, r, B)))
        | false => none)
      | none => none)
    | none => none)
  | _ => none
def sxAlu (n : Nat) (i : Instr) (pc b : Nat) : Option sxFn := match i with
  | .iconst k => some (sxPuI (pc + 1) (-100) 100 k)
  | .bipush k => some (sxPuI (pc + 2) (-128) 127 k)
  | .sipush k => some (sxPuI (pc + 3) (-32768) 32767 k)
  | .lconst k => some (match (k : Nat) with | 0 => sxPu (pc + 1) (.inr (true, (0, 0))) | _ + 1 => sxPu (pc + 1) (.inr (true, (0, 1))))
  | .iload_n k => some (sxLd 0 (k : Nat) (pc + 1))
  | .iload k => some (sxLd 0 k (pc + 2))
  | .lload_n k => some (sxLd 1 (k : Nat) (pc + 1))
  | .lload k => some (sxLd 1 k (pc + 2))
  | .aload_n k => some (sxLd 2 (k : Nat) (pc + 1))
  | .aload k => some (sxLd 2 k (pc + 2))
  | .istore_n k => some (sxSo 0 (k : Nat) (pc + 1))
  | .istore k => some (sxSo 0 k (pc + 2))
  | .lstore_n k => some (sxSw 1 (k : Nat) (pc + 1))
  | .lstore k => some (sxSw 1 k (pc + 2))
  | .astore_n k => some (sxSr n (k : Nat) (pc + 1))
  | .astore k => some (sxSr n k (pc + 2))
  | .iinc k z => some (sxInc k z (pc + 3))
  | .iadd => some (sxBin false false false (sxRemI sxM32 5 (sxAdd sxM32)) (pc + 1))
  | .isub => some (sxBin false false false (sxRem2 15 (sxSub sxM32)) (pc + 1))
  | .imul => some (sxBin false false false (sxRem1 1 (sxMul sxM32)) (pc + 1))
  | .iand => some (sxBin false false false (sxRem1 2 (sxAnd sxM32)) (pc + 1))
  | .ior => some (sxBin false false false (sxRem1 3 (sxOr sxM32)) (pc + 1))
  | .ixor => some (sxBin false false false (sxRem1 4 (sxOr sxM32)) (pc + 1))
  | .irem => some (sxBin false false false sxRem (pc + 1))
  | .ishl => some (sxBin false false false (sxRem1 6 (sxShl sxM32 32)) (pc + 1))
  | .ishr => some (sxBin false false false (sxRem1 7 (sxShr sxM32 32)) (pc + 1))
  | .iushr => some (sxBin false false false (sxRem1 8 (sxShr sxM32 32)) (pc + 1))
  | .ladd => some (sxBin true true true (sxRem2 9 (sxAdd sxM64)) (pc + 1))
  | .lsub => some (sxBin true true true (sxRem2 10 (sxSub sxM64)) (pc + 1))
  | .lmul => some (sxBin true true true (sxRem1 11 (sxMul sxM64)) (pc + 1))
  | .land => some (sxBin true true true (sxRem1 12 (sxAnd sxM64)) (pc + 1))
  | .lor => some (sxBin true true true (sxRem1 13 (sxOr sxM64)) (pc + 1))
  | .lxor => some (sxBin true true true (sxRem1 14 (sxOr sxM64)) (pc + 1))
  | .lshl => some (sxBin false true true (sxRem1 16 (sxShl sxM64 64)) (pc + 1))
  | .lshr => some (sxBin false true true (sxRem1 17 (sxShr sxM64 64)) (pc + 1))
  | .lushr => some (sxBin false true true (sxRem1 18 (sxShr sxM64 64)) (pc + 1))
  | .lcmp => some (sxLc (pc + 1))
  | .i2l => some (sxUn false true (fun B x => some (B, x)) (pc + 1))
  | .l2i => some (sxUn true false (fun B x => sxRem1 20 (fun B x _ => sxNar (-sxM32) (sxM32 - 1) B x) B x (0, 0)) (pc + 1))
  | .i2b => some (sxUn false false (fun B x => sxRem1 19 (fun B x _ => sxNar (-128) 127 B x) B x (0, 0)) (pc + 1))
  | .dup => some (fun B ls st => match st with | v :: r => (match Nat.beq (sxCat v) 1 with | true => some [(pc + 1, ls, v :: v :: r, B)] | false => none) | _ => none)
  | .pop => some (fun B ls st => match st with | v :: r => (match Nat.beq (sxCat v) 1 with | true => some [(pc + 1, ls, r, B)] | false => none) | _ => none)
  | .dup2 => some (fun B ls st => match st with | v :: w :: r => (match Nat.beq (sxCat v) 1 with | true => (match Nat.beq (sxCat w) 1 with | true => some [(pc + 1, ls, v :: w :: v :: w :: r, B)] | false => none) | false => none) | _ => none)
  | .ifCond c _ => some (sxIf1 c b (pc + 3))
  | .if_icmp c _ => some (sxIf2 c b (pc + 3))
  | .goto _ => some (fun B ls st => some [(b, ls, st, B)])
  | .tableswitch d lo hi o => some (sxTab d lo hi o pc b)
  | .lookupswitch d o => some (sxLkp d o pc b)
  | _ => none
variable {T : Nat} {n : Nat} {σ : List Int} {B : sxB} {ls : sxL} {st : List sxV} {cl : mjL} {cs : List Value} {l : List sxQ} {p pc b : Nat} {i : Instr}
theorem sxAG.one {ls' : sxL} {st' : List sxV} {B' : sxB} {σ' : List Int} {cl' : mjL} {cs' : List Value} (hu : sxUp σ σ') (hB : sxBR T σ' B') (hl : sxLR n σ' ls' cl') (hs : sxSR σ' st' cs') (h : mjAlu i pc b cl cs = some (p, cl', cs')) : sxAG T n i pc b σ cl cs [(p, ls', st', B')] :=
  ⟨_, List.mem_cons_self, σ', cl', cs', hu, hB, hl, hs, h⟩
theorem i32_of {k : Int} (h1 : -2147483648 ≤ k) (h2 : k < 2147483648) : (Int32.ofInt k).toInt = k := Int32.toInt_ofInt_of_le (by omega) (by omega)
theorem sxPuI_ok {lo hi k : Int} {v : Int32} (h : sxPuI p lo hi k B ls st = some l) (hB : sxBR T σ B) (hl : sxLR n σ ls cl) (hs : sxSR σ st cs) (hv : lo ≤ k → k ≤ hi → v.toInt = k) (hm : mjAlu i pc b cl cs = some (p, cl, .int v :: cs)) : sxAG T n i pc b σ cl cs l := by
  unfold sxPuI at h
  split at h
  · rename_i e1
    split at h
    · rename_i e2
      cases h
      exact .one sxUp.rf hB hl (sxSR.cons ⟨v, rfl, 0, hB.1.2, by rw [hv (iLe_ok e1) (iLe_ok e2)]; simp⟩ hs) hm
    · cases h
  · cases h
theorem sxLd_ok {kd k : Nat} (h : sxLd kd k p B ls st = some l) (hl : sxLR n σ ls cl) (hs : sxSR σ st cs) : ∃ (a : sxV) (v : Value), sxK a = kd ∧ mjGet cl k = some v ∧ sxVR σ a v ∧ l = [(p, ls, a :: st, B)] := by
  unfold sxLd at h
  split at h
  · rename_i a ha
    split at h
    · rename_i hk
      cases h
      obtain ⟨v, h1, h2⟩ := sxLR_get hl ha
      exact ⟨a, v, Nat.eq_of_beq_eq_true hk, h1, h2, rfl⟩
    · cases h
  · cases h
theorem sxSo_ok {kd k : Nat} (h : sxSo kd k p B ls st = some l) (hk2 : kd < 2) (hl : sxLR n σ ls cl) (hs : sxSR σ st cs) : ∃ (a : sxV) (v : Value) (r : List sxV) (cr : List Value), sxK a = kd ∧ sxVR σ a v ∧ cs = v :: cr ∧ sxSR σ r cr ∧ sxLR n σ (sxStO k a ls) (mjSt k v cl) ∧ l = [(p, sxStO k a ls, r, B)] := by
  unfold sxSo at h
  split at h
  · rename_i a r
    split at h
    · rename_i hk
      cases h
      have hk := Nat.eq_of_beq_eq_true hk
      obtain ⟨v, vs, rfl, h1, h2⟩ := sxSR_c hs
      refine ⟨a, v, r, vs, hk, h1, rfl, h2, sxLR_st hl h1 (sxVR_sc h1 ?_), rfl⟩
      match a, hk with
      | .inl w, hk => exact absurd (show 2 = kd from hk) (by omega)
      | .inr _, _ => rfl
    · cases h
  · cases h
theorem sxSr_ok {k : Nat} (h : sxSr n k p B ls st = some l) (hl : sxLR n σ ls cl) (hs : sxSR σ st cs) : ∃ (a : sxV) (v : Value) (r : List sxV) (cr : List Value), sxK a = 2 ∧ sxVR σ a v ∧ cs = v :: cr ∧ sxSR σ r cr ∧ sxLR n σ (sxStO k a ls) (mjSt k v cl) ∧ l = [(p, sxStO k a ls, r, B)] := by
  unfold sxSr at h
  split at h
  · rename_i a r
    split at h
    · rename_i hk
      split at h
      · rename_i hsc
        cases h
        obtain ⟨v, vs, rfl, h1, h2⟩ := sxSR_c hs
        exact ⟨a, v, r, vs, Nat.eq_of_beq_eq_true hk, h1, rfl, h2, sxLR_st hl h1 (sxVR_sc h1 hsc), rfl⟩
      · cases h
    · cases h
  · cases h
theorem sxSw_ok {k : Nat} (h : sxSw 1 k p B ls st = some l) (hl : sxLR n σ ls cl) (hs : sxSR σ st cs) : ∃ (a : sxV) (v : Value) (r : List sxV) (cr : List Value), sxK a = 1 ∧ sxVR σ a v ∧ cs = v :: cr ∧ sxSR σ r cr ∧ sxLR n σ (sxStT k a ls) (mjSt2 k v cl) ∧ l = [(p, sxStT k a ls, r, B)] := by
  unfold sxSw at h
  split at h
  · rename_i a r
    split at h
    · rename_i hk
      cases h
      have hk := Nat.eq_of_beq_eq_true hk
      obtain ⟨v, vs, rfl, h1, h2⟩ := sxSR_c hs
      refine ⟨a, v, r, vs, hk, h1, rfl, h2, sxLR_st2 hl h1 (sxVR_sc h1 ?_), rfl⟩
      match a, hk with
      | .inl w, hk => cases hk
      | .inr _, _ => rfl
    · cases h
  · cases h
theorem sxInc_ok {k : Nat} {z : Int} (h : sxInc k z p B ls st = some l) (hB : sxBR T σ B) (hl : sxLR n σ ls cl) (hs : sxSR σ st cs) (hp : p = pc + 3) : sxAG T n (.iinc k z) pc b σ cl cs l := by
  unfold sxInc at h
  split at h
  · rename_i e
    have hr := sxRm_ok e
    split at h
    · rename_i x hx
      split at h
      · rename_i w hw
        cases h
        obtain ⟨v, h1, v32, rfl, h2⟩ := sxLR_get hl hx
        have hsp := sp_add32 v32 (Int32.ofInt z)
        rw [i32_of (by simp only [sxM32] at hr; omega) (by simp only [sxM32] at hr; omega)] at hsp
        obtain ⟨σ', g1, g2, g3⟩ := sxRemI_ok (Y := z) (z := (v32 + Int32.ofInt z).toInt) hB hw h2 ⟨0, hB.1.2, by simp⟩ (by simp only [sxSem, Int32.ofInt_toInt]) fun w hw => sxAdd_ok hB hw h2 ⟨0, hB.1.2, by simp⟩ hsp
        subst hp
        exact .one g1 g2 (sxLR_st (sxLR.up g1 hl) ⟨_, rfl, g3⟩ rfl) (sxSR.up g1 hs) (by simp only [mjAlu, h1])
      · cases h
    · cases h
  · cases h
theorem sxBin_ok {ky kx kr : Bool} {g : sxB → sxN → sxN → Option (sxB × sxN)} (h : sxBin ky kx kr g p B ls st = some l) (hs : sxSR σ st cs) : ∃ (y x : sxN) (vy vx : Value) (r : List sxV) (cr : List Value) (w : sxB × sxN), cs = vy :: vx :: cr ∧ sxVR σ (.inr (ky, y)) vy ∧ sxVR σ (.inr (kx, x)) vx ∧ sxSR σ r cr ∧ g B x y = some w ∧ l = [(p, ls, .inr (kr, w.2) :: r, w.1)] := by
  unfold sxBin at h
  split at h
  · rename_i k1 y k2 x r
    split at h
    · rename_i e1
      split at h
      · rename_i e2
        split at h
        · rename_i w hw
          cases h
          have e1 := bEq_ok e1
          have e2 := bEq_ok e2
          subst e1 e2
          obtain ⟨vy, c1, rfl, h1, h2⟩ := sxSR_c hs
          obtain ⟨vx, c2, rfl, h3, h4⟩ := sxSR_c h2
          exact ⟨y, x, vy, vx, r, c2, w, rfl, h1, h3, h4, hw, rfl⟩
        · cases h
      · cases h
    · cases h
  · cases h
theorem sxUn_ok {kx kr : Bool} {g : sxB → sxN → Option (sxB × sxN)} (h : sxUn kx kr g p B ls st = some l) (hs : sxSR σ st cs) : ∃ (x : sxN) (vx : Value) (r : List sxV) (cr : List Value) (w : sxB × sxN), cs = vx :: cr ∧ sxVR σ (.inr (kx, x)) vx ∧ sxSR σ r cr ∧ g B x = some w ∧ l = [(p, ls, .inr (kr, w.2) :: r, w.1)] := by
  unfold sxUn at h
  split at h
  · rename_i k2 x r
    split at h
    · rename_i e2
      split at h
      · rename_i w hw
        cases h
        have e2 := bEq_ok e2
        subst e2
        obtain ⟨vx, c2, rfl, h3, h4⟩ := sxSR_c hs
        exact ⟨x, vx, r, c2, w, rfl, h3, h4, hw, rfl⟩
      · cases h
    · cases h
  · cases h
theorem sxAG.f32 {w : sxB × sxN} {v : Int32} {r : List sxV} {cr : List Value} (g : sxGive T σ w v.toInt) (hl : sxLR n σ ls cl) (hs : sxSR σ r cr) (hm : mjAlu i pc b cl cs = some (p, cl, .int v :: cr)) : sxAG T n i pc b σ cl cs [(p, ls, .inr (false, w.2) :: r, w.1)] := by
  obtain ⟨σ', g1, g2, g3⟩ := g
  exact .one g1 g2 (sxLR.up g1 hl) (sxSR.cons ⟨v, rfl, g3⟩ (sxSR.up g1 hs)) hm
theorem sxAG.f64 {w : sxB × sxN} {v : Int64} {r : List sxV} {cr : List Value} (g : sxGive T σ w v.toInt) (hl : sxLR n σ ls cl) (hs : sxSR σ r cr) (hm : mjAlu i pc b cl cs = some (p, cl, .long v :: cr)) : sxAG T n i pc b σ cl cs [(p, ls, .inr (true, w.2) :: r, w.1)] := by
  obtain ⟨σ', g1, g2, g3⟩ := g
  exact .one g1 g2 (sxLR.up g1 hl) (sxSR.cons ⟨v, rfl, g3⟩ (sxSR.up g1 hs)) hm
theorem sxLgLt {a b : Int64} (h : a.toInt < b.toInt) : lg_cmp a b = -1 := by
  have h3 : a < b := Int64.lt_iff_toInt_lt.mpr h
  have h4 : ¬ a > b := fun q => by have := Int64.lt_iff_toInt_lt.mp q; omega
  have h5 : ¬ a = b := fun q => by subst q; exact h4 h3
  unfold lg_cmp
  rw [if_neg h4, if_neg h5]
theorem sxLgGt {a b : Int64} (h : b.toInt < a.toInt) : lg_cmp a b = 1 := by
  have h3 : a > b := Int64.lt_iff_toInt_lt.mpr h
  unfold lg_cmp
  rw [if_pos h3]
theorem sxLgEq {a b : Int64} (h : a.toInt = b.toInt) : lg_cmp a b = 0 := by
  have h3 : a = b := Int64.toInt_inj.mp h
  subst h3
  have h4 : ¬ a > a := fun q => by have := Int64.lt_iff_toInt_lt.mp q; omega
  unfold lg_cmp
  rw [if_neg h4, if_pos rfl]
theorem sxLc_ok (h : sxLc (pc + 1) B ls st = some l) (hB : sxBR T σ B) (hl : sxLR n σ ls cl) (hs : sxSR σ st cs) : sxAG T n .lcmp pc b σ cl cs l := by
  unfold sxLc at h
  split at h
  · rename_i y x r
    cases h
    obtain ⟨vy, c1, rfl, h1, h2⟩ := sxSR_c hs
    obtain ⟨vx, c2, rfl, h3, h4⟩ := sxSR_c h2
    obtain ⟨Y, rfl, hy⟩ := h1
    obtain ⟨X, rfl, hx⟩ := h3
    have fin : ∀ {B' : sxB} {k : Int} {v : Int32}, sxBR T σ B' → lg_cmp X Y = v → v.toInt = k → ∃ (σ' : List Int) (cl' : mjL) (cs' : List Value), sxUp σ σ' ∧ sxBR T σ' B' ∧ sxLR n σ' ls cl' ∧ sxSR σ' (.inr (false, (0, k)) :: r) cs' ∧ mjAlu .lcmp pc b cl (.long Y :: .long X :: c2) = some (pc + 1, cl', cs') := by
      intro B' k v hB' hv hk
      exact ⟨σ, cl, .int v :: c2, sxUp.rf, hB', hl, ⟨⟨v, rfl, 0, hB'.1.2, by rw [hk]; simp⟩, h4⟩, by simp only [mjAlu, hv]⟩
    rcases Int.lt_trichotomy X.toInt Y.toInt with hc | hc | hc
    · obtain ⟨B', m1, m2⟩ := sxLtC_ok hB hx hy hc
      exact ⟨_, List.mem_append_left _ (List.mem_map.mpr ⟨B', m1, rfl⟩), fin m2 (sxLgLt hc) (by decide)⟩
    · obtain ⟨B', m1, m2⟩ := sxEqC_ok hB hx hy hc
      exact ⟨_, List.mem_append_right _ (List.mem_append_left _ (List.mem_map.mpr ⟨B', m1, rfl⟩)), fin m2 (sxLgEq hc) (by decide)⟩
    · obtain ⟨B', m1, m2⟩ := sxLtC_ok hB hy hx hc
      exact ⟨_, List.mem_append_right _ (List.mem_append_right _ (List.mem_map.mpr ⟨B', m1, rfl⟩)), fin m2 (sxLgGt hc) (by decide)⟩
  · cases h
end SXINS

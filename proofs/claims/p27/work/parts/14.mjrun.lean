/-! MJ: the run -/
section MJRUN
abbrev mjO : Type := (Option Value ⊕ Nat) × mjH × Nat × Nat
abbrev mjRec : Type := Option (List Int32) → Nat → Nat → Nat → mjL → List Value → mjH → Option mjO
def mjAdd (c s : Nat) (r : Option mjO) : Option mjO := match r with
  | some (o, h, c', s') => some (o, h, c + c', s + s')
  | none => none
def mjRv (i : Instr) (ret : Option FieldType) (st : List Value) : Option (Option Value) := match i with
  | .ireturn => match st with
    | [.int v] => match ret with
      | some ty => if narrow ty (.int v) = .int v then some (some (.int v)) else none
      | none => none
    | _ => none
  | .lreturn => match st with
    | [.long v] => if ret = some .long then some (some (.long v)) else none
    | _ => none
  | .areturn => match st with
    | [.ref v] => match ret with
      | some (.object _) => some (some (.ref v))
      | _ => none
    | _ => none
  | .return_ => match st with
    | [] => if ret = none then some none else none
    | _ => none
  | _ => none
def mjSca (n m : Nat) (ls : mjL) (st : List Value) : Bool := decide (n + m < mjS0) && ls.all (fun q => mjSc n q.2) && st.all (mjSc n)
/-- 'throw new E("text")' stands here -/
noncomputable def mjThr (k pc : Nat) (hh : List (Nat × Nat × Nat × Nat)) (a : Nat) : Bool := match mjTh.find? (fun q => q.1 == k && q.2.1 == pc), mjAtI k (pc + 3), mjAtI k (pc + 4), mjAtI k (pc + 7), mjAtI k (pc + 10), mjEp[a]?, mjM k with
  | some (_, _, ow, ic, E), some (.dup, _), some (.ldc_w is, _, sj, _, _), some (.invokespecial ic2, _), some (.athrow, _), some (E2, _), some (_, _, _, own, _, _, _) =>
    decide (hh = []) && decide (ow = own) && decide (ic2 = ic) && decide (E2 = E) && (match mjStx sj with | some (o, j, _) => decide (o = own ∧ j = is) | none => false)
  | _, _, _, _, _, _, _ => false
def mjCatch : List ((Nat × Nat × Nat × Nat) × (Nat × Nat)) → Nat → Nat → Option Nat
  | [], _, _ => none
  | q :: r, pc, E => if q.1.1 ≤ pc ∧ pc < q.1.2.1 ∧ q.2.1 = E then some q.1.2.2.1 else mjCatch r pc E
def mjDel (j : Nat) (ls : mjL) : mjL := ls.filter (fun q => !(q.1 == j) && !(q.1 + 1 == j && q.2.category == 2))
def mjArgs (n : Nat) (st : List Value) : Option (List Value × List Value) := if n ≤ st.length then some ((st.take n).reverse, st.drop n) else none
/-- what a call's object must be -/
noncomputable def mjRecv (i : Instr) (own : String) (as : List Value) (hp : mjH) : Bool := match i with
  | .invokevirtual _ => match as with
    | .ref o :: _ => match hp[o]? with
      | some (t, _) => match vwCl[t]? with
        | some r => decide (r.1 = own)
        | none => false
      | none => false
    | _ => false
  | .invokespecial _ => match as with
    | .ref _ :: _ => true
    | _ => false
  | _ => true
/-- behind a call: it returned, or threw -/
noncomputable def mjBack (rec : mjRec) (scr : Option (List Int32)) (d k pc : Nat) (hh : List (Nat × Nat × Nat × Nat)) (ls : mjL) (rest : List Value) (r : mjO) : Option mjO := match r with
  | (.inl v, hp2, c, s) => mjAdd c s (rec scr d k (pc + 3) ls (v.toList ++ rest) hp2)
  | (.inr E, hp2, c, s) => match mjCatch (hh.zip (mjHd k)) pc E with
    | none => some (.inr E, hp2, c, s)
    | some hpc => match mjAtI k hpc with
      | some (.astore_n j, _) => mjAdd c s (rec scr d k (hpc + 1) (mjDel (j : Nat) ls) [] hp2)
      | some (.astore j, _) => mjAdd c s (rec scr d k (hpc + 2) (mjDel j ls) [] hp2)
      | _ => none
noncomputable def mjCall (rec : mjRec) (scr : Option (List Int32)) (d k pc : Nat) (x : mjX) (hh : List (Nat × Nat × Nat × Nat)) (ls : mjL) (st : List Value) (hp : mjH) : Option mjO :=
  match mjM x.2.2.1 with
  | none => none
  | some (y2, nL2, ret2, own2, hh2, np2, stt2) => match mjArgs (if stt2 then np2 else np2 + 1) st with
    | none => none
    | some (as, rest) => match d with
      | 0 => none
      | d' + 1 => if (rest.map fun v => v.category).sum ≤ 8 ∧ mjRecv x.1 own2 as hp = true ∧ (lg_sl as).length ≤ nL2 ∧ mjSca hp.length 0 ls rest = true then
          (match rec none d' x.2.2.1 0 (lv_args 0 as) [] hp with
          | none => none
          | some r => if hp.length ≤ r.2.1.length then mjBack rec scr (d' + 1) k pc hh ls rest r else none)
        else none
/-- a text's bytes -/
noncomputable def mjTxo (o : Nat) : Option (List Nat) := if mjS0 ≤ o then (match mjTxt[(o - mjS0) / 16]? with
  | some l => l[(o - mjS0) % 16]?
  | none => none) else none
/-- String.length, String.charAt of the class's own texts -/
noncomputable def mjText (rec : mjRec) (scr : Option (List Int32)) (d k pc : Nat) (x : mjX) (ls : mjL) (st : List Value) (hp : mjH) : Option mjO := if x.2.2.1 = 900 then (match st with
    | .ref o :: r => match mjTxo o with
      | some bs => if (r.map fun v => v.category).sum ≤ 8 then rec scr d k (pc + 3) ls (.int (Int32.ofNat bs.length) :: r) hp else none
      | none => none
    | _ => none)
  else (match st with
    | .int i :: .ref o :: r => match mjTxo o with
      | some bs => if ¬ i < 0 ∧ (r.map fun v => v.category).sum ≤ 8 then (match bs[i.toNatClampNeg]? with
        | some c => rec scr d k (pc + 3) ls (.int (Int32.ofNat c) :: r) hp
        | none => none) else none
      | none => none
    | _ => none)
noncomputable def mjStep (rec : mjRec) : mjRec := fun scr d k pc ls st hp => match mjAtI k pc with
  | none => none
  | some x => match mjM k with
    | none => none
    | some (y, nL, ret, own, hh, np, stt) => match x.1 with
      | .ireturn => match mjRv x.1 ret st with | some v => some (.inl v, hp, 0, 0) | none => none
      | .lreturn => match mjRv x.1 ret st with | some v => some (.inl v, hp, 0, 0) | none => none
      | .areturn => match mjRv x.1 ret st with | some v => some (.inl v, hp, 0, 0) | none => none
      | .return_ => match mjRv x.1 ret st with | some v => some (.inl v, hp, 0, 0) | none => none
      | .new _ => if x.2.2.2.1 = 0 then (match vwCl[x.2.2.1]? with
          | some r => if mjSca hp.length 1 ls st = true then mjAdd 1 r.2.2 (rec scr d k (pc + 3) ls (.ref hp.length :: st) (hp ++ [mjFresh x.2.2.1 r.2.2])) else none
          | none => none)
        else if mjThr k pc hh x.2.2.1 = true ∧ (st.map fun v => v.category).sum ≤ 8 then some (.inr x.2.2.1, hp, 1, 6) else none
      | .newarray _ => match st with
        | .int n :: r => if ¬ n < 0 ∧ n.toNatClampNeg ≤ 100000 ∧ mjSca hp.length 1 ls r = true then mjAdd 1 n.toNatClampNeg (rec scr d k (pc + 2) ls (.ref hp.length :: r) (hp ++ [mjZero (100 + x.2.2.1) n.toNatClampNeg])) else none
        | _ => none
      | .anewarray _ => match st with
        | .int n :: r => if ¬ n < 0 ∧ n.toNatClampNeg ≤ 100000 ∧ mjSca hp.length 1 ls r = true then mjAdd 1 n.toNatClampNeg (rec scr d k (pc + 3) ls (.ref hp.length :: r) (hp ++ [mjZero (100 + x.2.2.1) n.toNatClampNeg])) else none
        | _ => none
      | .multianewarray _ _ => match st with
        | .int m :: .int n :: r => if (¬ n < 0 ∧ n.toNatClampNeg ≤ 100000) ∧ (¬ m < 0 ∧ m.toNatClampNeg ≤ 100000) ∧ mjSca hp.length (1 + n.toNatClampNeg) ls r = true then
            mjAdd (1 + n.toNatClampNeg) (n.toNatClampNeg + n.toNatClampNeg * m.toNatClampNeg) (rec scr d k (pc + 4) ls (.ref hp.length :: r) (hp ++ mjMulti hp.length n.toNatClampNeg m.toNatClampNeg)) else none
        | _ => none
      | .invokespecial _ => if x.2.2.1 = 998 then (match st with
          | .ref _ :: r => if (r.map fun v => v.category).sum ≤ 8 then rec scr d k (pc + 3) ls r hp else none
          | _ => none)
        else mjCall rec scr d k pc x hh ls st hp
      | .invokevirtual _ => if x.2.2.1 = 900 ∨ x.2.2.1 = 901 then mjText rec scr d k pc x ls st hp else mjCall rec scr d k pc x hh ls st hp
      | .invokestatic _ => if x.2.2.1 = 902 then (match st with
          | .int y :: .int x :: r => if (r.map fun v => v.category).sum ≤ 8 then rec scr d k (pc + 3) ls (.int (if x < y then y else x) :: r) hp else none
          | _ => none)
        else if x.2.2.1 = 903 then (match st with
          | .int y :: .int x :: r => if (r.map fun v => v.category).sum ≤ 8 then rec scr d k (pc + 3) ls (.int (if y < x then y else x) :: r) hp else none
          | _ => none)
        else mjCall rec scr d k pc x hh ls st hp
      | _ => match mjAlu x.1 pc x.2.2.2.1 ls st with
        | some (pc', ls', st') => rec scr d k pc' ls' st' hp
        | none => match mjHp scr x pc st hp with
          | some (pc', st', hp') => rec scr d k pc' ls st' hp'
          | none => none
noncomputable def mjEx : Nat → mjRec
  | 0 => fun _ _ _ _ _ _ _ => none
  | f + 1 => mjStep (mjEx f)
end MJRUN

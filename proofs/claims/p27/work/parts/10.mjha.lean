/-! MJ: arrays, constants -/
section MJHA
variable {p : Program} {l : Launch} {e : Env} {R : Room} {s : State} {m : MethodId} {args : Array Value} {below : List Frame} {meth : Method} {c : Code} {cells slots : Nat} {Q : State → Prop} {cc : ByteArray} {H : Heap} {locs : List Loc} {arr : Array Slot} {ad : Nat → Nat} {pc n pc' a b w : Nat} {st st' : List Value}
variable {D : va_G} {dT : Nat → ClassId} {A : Nat → Prop} {hp hp' : mjH} {own : String} {ini : Bool} {scr : Option (List Int32)}
/-- the script's array -/
def mjSX (scr : Option (List Int32)) (ad : Nat → Nat) (A : Nat → Prop) (s : State) : Prop := ∀ xs, scr = some xs → va_X (ad mjScr) xs.length (fun j => xs.getD j 0) s s.heap ∧ ad mjScr < s.heap.size ∧ ¬ A (ad mjScr)
theorem mj_in {i : Int32} {n : Nat} (h : ¬ i < 0) (h2 : i.toNatClampNeg < n) : ¬ (i < 0 ∨ n ≤ i.toNatClampNeg) := fun q => q.elim h (fun z => Nat.not_lt.mpr z h2)

theorem mh_laload (hexec : p.tables.exec = Jvm.exec) (hb : c.code = cc) (hK : va_K D vwCl (mjTys dT) s) (hd : decode cc pc = .ok (.laload, 1)) (h : mjHp scr (.laload, n, a, b, w) pc st hp = some (pc', st', hp')) (hR : mjR D dT ad A hp H) (hS : va_S A s.heap H locs)
    (k : ∀ (H' : Heap) (locs' : List Loc), mjR D dT ad A hp' H' → va_S A s.heap H' locs' → W p l e R s m args below meth c H' locs' cells slots Q (F0 m pc' arr (rls ad st'))) : W p l e R s m args below meth c H locs cells slots Q (F0 m pc arr (rls ad st)) := by
  obtain ⟨i, o, r, t, vs, v, rfl, ho, ht, hi, hv, ex⟩ : ∃ (i : Int32) (o : Nat) (r : List Value) (t : Nat) (vs : List Value) (v : Value), st = .int i :: .ref o :: r ∧ hp[o]? = some (t, vs) ∧ (t = 101) ∧ ¬ i < 0 ∧ vs[i.toNatClampNeg]? = some v ∧ some (pc + 1, v :: r, hp) = some (pc', st', hp') := by
    simp only [mjHp] at h
    split at h
    · split at h
      · rename_i ho
        split at h
        · rename_i ht
          split at h
          · rename_i hv
            exact ⟨_, _, _, _, _, _, rfl, ho, ht.1, ht.2, hv, h⟩
          · cases h
        · cases h
      · cases h
    · cases h
  simp only [Option.some.injEq, Prod.mk.injEq] at ex
  obtain ⟨rfl, rfl, rfl⟩ := ex
  subst ht
  exact W.lald (v := rl ad v) hexec hb (mj_arr hR ho (by decide)) ((mj_ty hK (t := 101) (by decide) (by decide)).1 _ _) (fun q => by cases q) (by rw [arrV_size]; exact mj_in hi (List.getElem?_eq_some_iff.mp hv).1) (mj_read hv) rfl rfl hd (k H locs hR hS)
theorem mh_baload (hexec : p.tables.exec = Jvm.exec) (hb : c.code = cc) (hK : va_K D vwCl (mjTys dT) s) (hd : decode cc pc = .ok (.baload, 1)) (h : mjHp scr (.baload, n, a, b, w) pc st hp = some (pc', st', hp')) (hR : mjR D dT ad A hp H) (hS : va_S A s.heap H locs)
    (k : ∀ (H' : Heap) (locs' : List Loc), mjR D dT ad A hp' H' → va_S A s.heap H' locs' → W p l e R s m args below meth c H' locs' cells slots Q (F0 m pc' arr (rls ad st'))) : W p l e R s m args below meth c H locs cells slots Q (F0 m pc arr (rls ad st)) := by
  obtain ⟨i, o, r, t, vs, v, rfl, ho, ht, hi, hv, ex⟩ : ∃ (i : Int32) (o : Nat) (r : List Value) (t : Nat) (vs : List Value) (v : Value), st = .int i :: .ref o :: r ∧ hp[o]? = some (t, vs) ∧ (t = 102 ∨ t = 103) ∧ ¬ i < 0 ∧ vs[i.toNatClampNeg]? = some v ∧ some (pc + 1, v :: r, hp) = some (pc', st', hp') := by
    simp only [mjHp] at h
    split at h
    · split at h
      · rename_i ho
        split at h
        · rename_i ht
          split at h
          · rename_i hv
            exact ⟨_, _, _, _, _, _, rfl, ho, ht.1, ht.2, hv, h⟩
          · cases h
        · cases h
      · cases h
    · cases h
  simp only [Option.some.injEq, Prod.mk.injEq] at ex
  obtain ⟨rfl, rfl, rfl⟩ := ex
  rcases ht with rfl | rfl
  · exact W.bald (v := rl ad v) hexec hb (mj_arr hR ho (by decide)) ((mj_ty hK (t := 102) (by decide) (by decide)).1 _ _) (fun q => by cases q) (by rw [arrV_size]; exact mj_in hi (List.getElem?_eq_some_iff.mp hv).1) (mj_read hv) rfl rfl hd (k H locs hR hS)
  · exact W.zald (v := rl ad v) hexec hb (mj_arr hR ho (by decide)) ((mj_ty hK (t := 103) (by decide) (by decide)).1 _ _) (fun q => by cases q) (by rw [arrV_size]; exact mj_in hi (List.getElem?_eq_some_iff.mp hv).1) (mj_read hv) rfl rfl hd (k H locs hR hS)
theorem mh_aaload (hexec : p.tables.exec = Jvm.exec) (hb : c.code = cc) (hK : va_K D vwCl (mjTys dT) s) (hd : decode cc pc = .ok (.aaload, 1)) (h : mjHp scr (.aaload, n, a, b, w) pc st hp = some (pc', st', hp')) (hR : mjR D dT ad A hp H) (hS : va_S A s.heap H locs)
    (k : ∀ (H' : Heap) (locs' : List Loc), mjR D dT ad A hp' H' → va_S A s.heap H' locs' → W p l e R s m args below meth c H' locs' cells slots Q (F0 m pc' arr (rls ad st'))) : W p l e R s m args below meth c H locs cells slots Q (F0 m pc arr (rls ad st)) := by
  obtain ⟨i, o, r, t, vs, v, rfl, ho, ht, hi, hv, ex⟩ : ∃ (i : Int32) (o : Nat) (r : List Value) (t : Nat) (vs : List Value) (v : Value), st = .int i :: .ref o :: r ∧ hp[o]? = some (t, vs) ∧ (t = 104 ∨ t = 105 ∨ t = 106) ∧ ¬ i < 0 ∧ vs[i.toNatClampNeg]? = some v ∧ some (pc + 1, v :: r, hp) = some (pc', st', hp') := by
    simp only [mjHp] at h
    split at h
    · split at h
      · rename_i ho
        split at h
        · rename_i ht
          split at h
          · rename_i hv
            exact ⟨_, _, _, _, _, _, rfl, ho, ht.1, ht.2, hv, h⟩
          · cases h
        · cases h
      · cases h
    · cases h
  simp only [Option.some.injEq, Prod.mk.injEq] at ex
  obtain ⟨rfl, rfl, rfl⟩ := ex
  rcases ht with rfl | rfl | rfl
  · exact W.aald (v := rl ad v) hexec hb (mj_arr hR ho (by decide)) ((mj_ty hK (t := 104) (by decide) (by decide)).1 _ _) rfl (fun q => by cases q) (by rw [arrV_size]; exact mj_in hi (List.getElem?_eq_some_iff.mp hv).1) (mj_read hv) rfl rfl hd (k H locs hR hS)
  · exact W.aald (v := rl ad v) hexec hb (mj_arr hR ho (by decide)) ((mj_ty hK (t := 105) (by decide) (by decide)).1 _ _) rfl (fun q => by cases q) (by rw [arrV_size]; exact mj_in hi (List.getElem?_eq_some_iff.mp hv).1) (mj_read hv) rfl rfl hd (k H locs hR hS)
  · exact W.aald (v := rl ad v) hexec hb (mj_arr hR ho (by decide)) ((mj_ty hK (t := 106) (by decide) (by decide)).1 _ _) rfl (fun q => by cases q) (by rw [arrV_size]; exact mj_in hi (List.getElem?_eq_some_iff.mp hv).1) (mj_read hv) rfl rfl hd (k H locs hR hS)
theorem mh_iaload (hexec : p.tables.exec = Jvm.exec) (hb : c.code = cc) (hK : va_K D vwCl (mjTys dT) s) (hSX : mjSX scr ad A s) (hd : decode cc pc = .ok (.iaload, 1)) (h : mjHp scr (.iaload, n, a, b, w) pc st hp = some (pc', st', hp')) (hR : mjR D dT ad A hp H) (hS : va_S A s.heap H locs)
    (k : ∀ (H' : Heap) (locs' : List Loc), mjR D dT ad A hp' H' → va_S A s.heap H' locs' → W p l e R s m args below meth c H' locs' cells slots Q (F0 m pc' arr (rls ad st'))) : W p l e R s m args below meth c H locs cells slots Q (F0 m pc arr (rls ad st)) := by
  simp only [mjHp] at h
  split at h
  · rename_i i o r
    split at h
    · rename_i hz
      subst hz
      split at h
      · rename_i xs
        split at h
        · cases h
        · rename_i hi
          simp only [Option.some.injEq, Prod.mk.injEq] at h
          obtain ⟨rfl, rfl, rfl⟩ := h
          obtain ⟨hX, hbl, hbA⟩ := hSX xs rfl
          exact va_sld hexec hb hX hbl hbA hS hi hd (k H locs hR hS)
      · cases h
    · split at h
      · rename_i t vs ho
        split at h
        · rename_i ht
          obtain ⟨rfl, hi⟩ := ht
          split at h
          · rename_i v hv
            simp only [Option.some.injEq, Prod.mk.injEq] at h
            obtain ⟨rfl, rfl, rfl⟩ := h
            exact W.iald (v := rl ad v) hexec hb (mj_arr hR ho (by decide)) ((mj_ty hK (t := 100) (by decide) (by decide)).1 _ _) (fun q => by cases q) (by rw [arrV_size]; exact mj_in hi (List.getElem?_eq_some_iff.mp hv).1) (mj_read hv) rfl rfl hd (k H locs hR hS)
          · cases h
        · cases h
      · cases h
  · cases h
theorem mh_arraylength (hexec : p.tables.exec = Jvm.exec) (hb : c.code = cc) (hK : va_K D vwCl (mjTys dT) s) (hSX : mjSX scr ad A s) (hd : decode cc pc = .ok (.arraylength, 1)) (h : mjHp scr (.arraylength, n, a, b, w) pc st hp = some (pc', st', hp')) (hR : mjR D dT ad A hp H) (hS : va_S A s.heap H locs)
    (k : ∀ (H' : Heap) (locs' : List Loc), mjR D dT ad A hp' H' → va_S A s.heap H' locs' → W p l e R s m args below meth c H' locs' cells slots Q (F0 m pc' arr (rls ad st'))) : W p l e R s m args below meth c H locs cells slots Q (F0 m pc arr (rls ad st)) := by
  simp only [mjHp] at h
  split at h
  · rename_i o r
    split at h
    · rename_i hz
      subst hz
      split at h
      · rename_i xs
        simp only [Option.some.injEq, Prod.mk.injEq] at h
        obtain ⟨rfl, rfl, rfl⟩ := h
        obtain ⟨hX, hbl, hbA⟩ := hSX xs rfl
        exact va_slen hexec hb hX hbl hbA hS hd (k H locs hR hS)
      · cases h
    · split at h
      · rename_i t vs ho
        split at h
        · rename_i ht
          simp only [Option.some.injEq, Prod.mk.injEq] at h
          obtain ⟨rfl, rfl, rfl⟩ := h
          exact W.alen (n := Int32.ofNat vs.length) hexec hb (mj_arr hR ho ht.1) ((mj_ty hK ht.1 ht.2).1 _ _) (by rw [arrV_size] <;> rfl) rfl rfl hd (k H locs hR hS)
        · cases h
      · cases h
  · cases h
theorem mh_iastore (hexec : p.tables.exec = Jvm.exec) (hb : c.code = cc) (hK : va_K D vwCl (mjTys dT) s) (hd : decode cc pc = .ok (.iastore, 1)) (h : mjHp scr (.iastore, n, a, b, w) pc st hp = some (pc', st', hp')) (hR : mjR D dT ad A hp H) (hS : va_S A s.heap H locs)
    (k : ∀ (H' : Heap) (locs' : List Loc), mjR D dT ad A hp' H' → va_S A s.heap H' locs' → W p l e R s m args below meth c H' locs' cells slots Q (F0 m pc' arr (rls ad st'))) : W p l e R s m args below meth c H locs cells slots Q (F0 m pc arr (rls ad st)) := by
  obtain ⟨v, i, o, r, vs, rfl, ho, hi, hl, ex⟩ : ∃ (v : Int32) (i : Int32) (o : Nat) (r : List Value) (vs : List Value), st = .int v :: .int i :: .ref o :: r ∧ hp[o]? = some (100, vs) ∧ ¬ i < 0 ∧ i.toNatClampNeg < vs.length ∧ some (pc + 1, r, hp.set o (100, vs.set i.toNatClampNeg (.int v))) = some (pc', st', hp') := by
    simp only [mjHp] at h
    split at h
    · split at h
      · rename_i ho
        split at h
        · rename_i ht
          obtain ⟨rfl, h1, h2⟩ := ht
          exact ⟨_, _, _, _, _, rfl, ho, h1, h2, h⟩
        · cases h
      · cases h
    · cases h
  simp only [Option.some.injEq, Prod.mk.injEq] at ex
  obtain ⟨rfl, rfl, rfl⟩ := ex
  exact W.iast hexec hb (mj_arr hR ho (by decide)) ((mj_ty hK (t := 100) (by decide) (by decide)).1 _ _) (fun q => by cases q) (by rw [arrV_size]; exact mj_in hi hl) rfl rfl hd (fun H1 e1 z1 oq => k H1 _ (mj_put hR ho (by decide) hl rfl e1 oq) (hS.put z1 oq (hR.2.2.1 o (List.getElem?_eq_some_iff.mp ho).1)))
theorem mh_lastore (hexec : p.tables.exec = Jvm.exec) (hb : c.code = cc) (hK : va_K D vwCl (mjTys dT) s) (hd : decode cc pc = .ok (.lastore, 1)) (h : mjHp scr (.lastore, n, a, b, w) pc st hp = some (pc', st', hp')) (hR : mjR D dT ad A hp H) (hS : va_S A s.heap H locs)
    (k : ∀ (H' : Heap) (locs' : List Loc), mjR D dT ad A hp' H' → va_S A s.heap H' locs' → W p l e R s m args below meth c H' locs' cells slots Q (F0 m pc' arr (rls ad st'))) : W p l e R s m args below meth c H locs cells slots Q (F0 m pc arr (rls ad st)) := by
  obtain ⟨v, i, o, r, vs, rfl, ho, hi, hl, ex⟩ : ∃ (v : Int64) (i : Int32) (o : Nat) (r : List Value) (vs : List Value), st = .long v :: .int i :: .ref o :: r ∧ hp[o]? = some (101, vs) ∧ ¬ i < 0 ∧ i.toNatClampNeg < vs.length ∧ some (pc + 1, r, hp.set o (101, vs.set i.toNatClampNeg (.long v))) = some (pc', st', hp') := by
    simp only [mjHp] at h
    split at h
    · split at h
      · rename_i ho
        split at h
        · rename_i ht
          obtain ⟨rfl, h1, h2⟩ := ht
          exact ⟨_, _, _, _, _, rfl, ho, h1, h2, h⟩
        · cases h
      · cases h
    · cases h
  simp only [Option.some.injEq, Prod.mk.injEq] at ex
  obtain ⟨rfl, rfl, rfl⟩ := ex
  exact W.last hexec hb (mj_arr hR ho (by decide)) ((mj_ty hK (t := 101) (by decide) (by decide)).1 _ _) (fun q => by cases q) (by rw [arrV_size]; exact mj_in hi hl) rfl rfl hd (fun H1 e1 z1 oq => k H1 _ (mj_put hR ho (by decide) hl rfl e1 oq) (hS.put z1 oq (hR.2.2.1 o (List.getElem?_eq_some_iff.mp ho).1)))
theorem mh_bastore (hexec : p.tables.exec = Jvm.exec) (hb : c.code = cc) (hK : va_K D vwCl (mjTys dT) s) (hd : decode cc pc = .ok (.bastore, 1)) (h : mjHp scr (.bastore, n, a, b, w) pc st hp = some (pc', st', hp')) (hR : mjR D dT ad A hp H) (hS : va_S A s.heap H locs)
    (k : ∀ (H' : Heap) (locs' : List Loc), mjR D dT ad A hp' H' → va_S A s.heap H' locs' → W p l e R s m args below meth c H' locs' cells slots Q (F0 m pc' arr (rls ad st'))) : W p l e R s m args below meth c H locs cells slots Q (F0 m pc arr (rls ad st)) := by
  simp only [mjHp] at h
  split at h
  · rename_i v i o r
    split at h
    · rename_i t vs ho
      split at h
      · rename_i ht
        obtain ⟨rfl, hi, hl⟩ := ht
        simp only [Option.some.injEq, Prod.mk.injEq] at h
        obtain ⟨rfl, rfl, rfl⟩ := h
        exact W.bast hexec hb (mj_arr hR ho (by decide)) ((mj_ty hK (t := 102) (by decide) (by decide)).1 _ _) (fun q => by cases q) (by rw [arrV_size]; exact mj_in hi hl) rfl rfl hd (fun H1 e1 z1 oq => k H1 _ (mj_put hR ho (by decide) hl rfl e1 oq) (hS.put z1 oq (hR.2.2.1 o (List.getElem?_eq_some_iff.mp ho).1)))
      · split at h
        · rename_i ht
          obtain ⟨rfl, hi, hl⟩ := ht
          simp only [Option.some.injEq, Prod.mk.injEq] at h
          obtain ⟨rfl, rfl, rfl⟩ := h
          exact W.zast hexec hb (mj_arr hR ho (by decide)) ((mj_ty hK (t := 103) (by decide) (by decide)).1 _ _) (fun q => by cases q) (by rw [arrV_size]; exact mj_in hi hl) rfl rfl hd (fun H1 e1 z1 oq => k H1 _ (mj_put hR ho (by decide) hl rfl e1 oq) (hS.put z1 oq (hR.2.2.1 o (List.getElem?_eq_some_iff.mp ho).1)))
        · cases h
    · cases h
  · cases h
theorem mh_aastore (hexec : p.tables.exec = Jvm.exec) (hb : c.code = cc) (hK : va_K D vwCl (mjTys dT) s) (hd : decode cc pc = .ok (.aastore, 1)) (h : mjHp scr (.aastore, n, a, b, w) pc st hp = some (pc', st', hp')) (hR : mjR D dT ad A hp H) (hS : va_S A s.heap H locs)
    (k : ∀ (H' : Heap) (locs' : List Loc), mjR D dT ad A hp' H' → va_S A s.heap H' locs' → W p l e R s m args below meth c H' locs' cells slots Q (F0 m pc' arr (rls ad st'))) : W p l e R s m args below meth c H locs cells slots Q (F0 m pc arr (rls ad st)) := by
  simp only [mjHp] at h
  split at h
  · rename_i v i o r
    split at h
    · rename_i t vs t2 us ho hv2
      split at h
      · rename_i ht
        obtain ⟨ht, hi, hl⟩ := ht
        simp only [Option.some.injEq, Prod.mk.injEq] at h
        obtain ⟨rfl, rfl, rfl⟩ := h
        have hvl := (List.getElem?_eq_some_iff.mp hv2).1
        have hsc : mjSc hp.length (.ref v) = true := by simp [mjSc, hvl]
        have key : ∀ (C : String) (N : Nat) (T : u_T), vwCl[t2]? = some (C, T, N) → t2 < 100 → 100 ≤ t → t < 107 → mjAty t = .object C → W p l e R s m args below meth c H locs cells slots Q (F0 m pc arr (rls ad (.ref v :: .int i :: .ref o :: r))) := by
          intro C N T hc h1 h2 h3 hty
          obtain ⟨r', g0, -, cellV, g1, g2, g3, -⟩ := (hR.1 v _ hv2).1 h1
          have hr : r' = (C, T, N) := Option.some.inj (g0.symm.trans hc)
          subst hr
          have hcls := (hK.1 t2 _ hc).2
          have hRA := (mj_ty hK h2 h3).2
          rw [hty] at hRA
          obtain ⟨kA, comp, k1, k2, k3, -⟩ := hRA
          have hcomp : comp = D.1 t2 := Option.some.inj (k3.symm.trans hcls.1)
          subst hcomp
          obtain ⟨kC, hkC, -⟩ := hcls.2
          exact W.aast hexec hb (mj_arr hR ho h2) (fun q h => by cases h) (fun h => by cases h) k1 k2 rfl hkC ⟨hi, by rw [arrV_size]; exact hl⟩ g1 (fun q h => by rw [g3] at h; cases h) (by rw [g2]; exact hkC) (by rw [g2]; exact va_assign hcls) rfl rfl hd
            (fun H1 e1 z1 oq => k H1 _ (mj_put hR ho h2 hl hsc e1 oq) (hS.put z1 oq (hR.2.2.1 o (List.getElem?_eq_some_iff.mp ho).1)))
        rcases ht with ⟨rfl, rfl⟩ | ⟨rfl, rfl⟩
        · exact key RX4 3 TX4 rfl (by decide) (by decide) (by decide) rfl
        · exact key RX7 8 TX7 rfl (by decide) (by decide) (by decide) rfl
      · cases h
    · cases h
  · cases h
/-- the texts' places -/
def mjSt_ok (ad : Nat → Nat) (s : State) : Prop := ∀ (j : Nat) (o : String) (i : Nat) (tx : String), mjStx j = some (o, i, tx) → vk_R o i tx (ad (mjS0 + j)) s
theorem mh_ldc {i : Nat} (hexec : p.tables.exec = Jvm.exec) (hb : c.code = cc) (hown : s.vm.findClass own = some m.cls) (hts : ∀ w ∈ mjGl, w.before args s = true) (hStr : mjSt_ok ad s) (hd : decode cc pc = .ok (.ldc i, 2)) (hlk : mjLk own ini (.ldc i, n, a, b, w) = true)
    (h : mjHp scr (.ldc i, n, a, b, w) pc st hp = some (pc', st', hp')) (hR : mjR D dT ad A hp H) (hS : va_S A s.heap H locs)
    (k : ∀ (H' : Heap) (locs' : List Loc), mjR D dT ad A hp' H' → va_S A s.heap H' locs' → W p l e R s m args below meth c H' locs' cells slots Q (F0 m pc' arr (rls ad st'))) : W p l e R s m args below meth c H locs cells slots Q (F0 m pc arr (rls ad st)) := by
  simp only [mjHp, Option.some.injEq, Prod.mk.injEq] at h
  obtain ⟨rfl, rfl, rfl⟩ := h
  have k1 := k H locs hR hS
  simp only [mjLk] at hlk
  by_cases hb0 : b = 0
  · rw [if_pos hb0] at hlk k1
    exact lv_ldc hexec hb hown (hts _ (mjIs_in hlk)) hd k1
  · rw [if_neg hb0] at hlk k1
    split at hlk
    · rename_i o j tx hj
      obtain ⟨rfl, rfl⟩ := of_decide_eq_true hlk
      exact va_ldcS hexec hb hown (hStr a _ _ _ hj) hd k1
    · cases hlk
theorem mh_ldc_w {i : Nat} (hexec : p.tables.exec = Jvm.exec) (hb : c.code = cc) (hown : s.vm.findClass own = some m.cls) (hts : ∀ w ∈ mjGl, w.before args s = true) (hd : decode cc pc = .ok (.ldc_w i, 3)) (hlk : mjLk own ini (.ldc_w i, n, a, b, w) = true)
    (h : mjHp scr (.ldc_w i, n, a, b, w) pc st hp = some (pc', st', hp')) (hR : mjR D dT ad A hp H) (hS : va_S A s.heap H locs)
    (k : ∀ (H' : Heap) (locs' : List Loc), mjR D dT ad A hp' H' → va_S A s.heap H' locs' → W p l e R s m args below meth c H' locs' cells slots Q (F0 m pc' arr (rls ad st'))) : W p l e R s m args below meth c H locs cells slots Q (F0 m pc arr (rls ad st)) := by
  simp only [mjHp] at h
  split at h
  · rename_i hb0
    simp only [Option.some.injEq, Prod.mk.injEq] at h
    obtain ⟨rfl, rfl, rfl⟩ := h
    simp only [mjLk] at hlk
    rw [if_pos hb0] at hlk
    exact lv_ldcw hexec hb hown (hts _ (mjIs_in hlk)) hd (k H locs hR hS)
  · cases h
theorem mh_ldc2_w {i : Nat} (hexec : p.tables.exec = Jvm.exec) (hb : c.code = cc) (hown : s.vm.findClass own = some m.cls) (hts : ∀ w ∈ mjGl, w.before args s = true) (hd : decode cc pc = .ok (.ldc2_w i, 3)) (hlk : mjLk own ini (.ldc2_w i, n, a, b, w) = true)
    (h : mjHp scr (.ldc2_w i, n, a, b, w) pc st hp = some (pc', st', hp')) (hR : mjR D dT ad A hp H) (hS : va_S A s.heap H locs)
    (k : ∀ (H' : Heap) (locs' : List Loc), mjR D dT ad A hp' H' → va_S A s.heap H' locs' → W p l e R s m args below meth c H' locs' cells slots Q (F0 m pc' arr (rls ad st'))) : W p l e R s m args below meth c H locs cells slots Q (F0 m pc arr (rls ad st)) := by
  simp only [mjHp, Option.some.injEq, Prod.mk.injEq] at h
  obtain ⟨rfl, rfl, rfl⟩ := h
  exact lv_ldc2 hexec hb hown (hts _ (mjIs_in hlk)) hd (k H locs hR hS)
/-- all of reading, writing, constants -/
theorem mjHp_ok {x : mjX} (hexec : p.tables.exec = Jvm.exec) (hb : c.code = cc) (hown : s.vm.findClass own = some m.cls) (hts : ∀ w ∈ mjGl, w.before args s = true) (hK : va_K D vwCl (mjTys dT) s) (hini : ini = true → meth.name = "<init>") (hStr : mjSt_ok ad s) (hSX : mjSX scr ad A s)
    (hd : decode cc pc = .ok (x.1, x.2.1)) (hlen : mjLen x.1 = 0 ∨ x.2.1 = mjLen x.1) (hlk : mjLk own ini x = true)
    (h : mjHp scr x pc st hp = some (pc', st', hp')) (hR : mjR D dT ad A hp H) (hS : va_S A s.heap H locs)
    (k : ∀ (H' : Heap) (locs' : List Loc), mjR D dT ad A hp' H' → va_S A s.heap H' locs' → W p l e R s m args below meth c H' locs' cells slots Q (F0 m pc' arr (rls ad st'))) : W p l e R s m args below meth c H locs cells slots Q (F0 m pc arr (rls ad st)) := by
  obtain ⟨i, n, a, b, w⟩ := x
  dsimp only at hd hlen
  cases i with
  | getfield i => exact mh_getfield hexec hb hown hts hK (by rw [hlen.resolve_left (by simp [mjLen])] at hd; exact hd) hlk h hR hS k
  | putfield i => exact mh_putfield hexec hb hown hts hK hini (by rw [hlen.resolve_left (by simp [mjLen])] at hd; exact hd) hlk h hR hS k
  | ldc i => exact mh_ldc hexec hb hown hts hStr (by rw [hlen.resolve_left (by simp [mjLen])] at hd; exact hd) hlk h hR hS k
  | ldc_w i => exact mh_ldc_w hexec hb hown hts (by rw [hlen.resolve_left (by simp [mjLen])] at hd; exact hd) hlk h hR hS k
  | ldc2_w i => exact mh_ldc2_w hexec hb hown hts (by rw [hlen.resolve_left (by simp [mjLen])] at hd; exact hd) hlk h hR hS k
  | arraylength => exact mh_arraylength hexec hb hK hSX (by rw [hlen.resolve_left (by simp [mjLen])] at hd; exact hd) h hR hS k
  | iaload => exact mh_iaload hexec hb hK hSX (by rw [hlen.resolve_left (by simp [mjLen])] at hd; exact hd) h hR hS k
  | laload => exact mh_laload hexec hb hK (by rw [hlen.resolve_left (by simp [mjLen])] at hd; exact hd) h hR hS k
  | baload => exact mh_baload hexec hb hK (by rw [hlen.resolve_left (by simp [mjLen])] at hd; exact hd) h hR hS k
  | aaload => exact mh_aaload hexec hb hK (by rw [hlen.resolve_left (by simp [mjLen])] at hd; exact hd) h hR hS k
  | iastore => exact mh_iastore hexec hb hK (by rw [hlen.resolve_left (by simp [mjLen])] at hd; exact hd) h hR hS k
  | lastore => exact mh_lastore hexec hb hK (by rw [hlen.resolve_left (by simp [mjLen])] at hd; exact hd) h hR hS k
  | bastore => exact mh_bastore hexec hb hK (by rw [hlen.resolve_left (by simp [mjLen])] at hd; exact hd) h hR hS k
  | aastore => exact mh_aastore hexec hb hK (by rw [hlen.resolve_left (by simp [mjLen])] at hd; exact hd) h hR hS k
  | _ => simp [mjHp] at h
end MJHA

/-! MJ: reading and writing the heap: what mjHp says the bytecode does -/
section MJHR
variable {p : Program} {l : Launch} {e : Env} {R : Room} {s : State} {m : MethodId} {args : Array Value} {below : List Frame} {meth : Method} {c : Code} {cells slots : Nat} {Q : State → Prop} {cc : ByteArray} {H : Heap} {locs : List Loc} {arr : Array Slot} {ad : Nat → Nat} {pc n pc' a b w : Nat} {st st' : List Value}
variable {D : va_G} {dT : Nat → ClassId} {A : Nat → Prop} {hp hp' : mjH} {own : String} {ini : Bool} {scr : Option (List Int32)}
theorem mj_ty {s : State} {D : va_G} {dT : Nat → ClassId} (hK : va_K D vwCl (mjTys dT) s) {t : Nat} (h : 100 ≤ t) (h2 : t < 107) : ArrOfT s (dT t) (mjAty t) ∧ va_RA s (dT t) (mjAty t) := by
  refine hK.2 (t - 100) (dT t, mjAty t) ?_
  have e : 100 + (t - 100) = t := by omega
  have h3 : t - 100 < 7 := by omega
  simp [mjTys, List.getElem?_map, List.getElem?_range h3, e]
theorem mj_arr {o t : Nat} {vs : List Value} (hR : mjR D dT ad A hp H) (ho : hp[o]? = some (t, vs)) (ht : 100 ≤ t) : H[ad o]? = some (arrV (dT t) vs.length (fun j => rl ad (vs.getD j .null))) := (hR.1 o _ ho).2 ht
theorem mj_put {o t i : Nat} {vs : List Value} {v : Value} {H1 : Heap} (hR : mjR D dT ad A hp H) (ho : hp[o]? = some (t, vs)) (ht : 100 ≤ t) (hi : i < vs.length) (hsc : mjSc hp.length v = true)
    (e1 : H1[ad o]? = some ((arrV (dT t) vs.length (fun j => rl ad (vs.getD j .null))).setSlot i (rl ad v))) (oq : ∀ q : Nat, q ≠ ad o → H1[q]? = H[q]?) : mjR D dT ad A (hp.set o (t, vs.set i v)) H1 := by
  refine hR.set ho ⟨fun h => absurd h (Nat.not_lt.mpr ht), fun _ => ?_⟩ (fun x hx => ?_) oq
  · rw [e1, arrV_store]
    show some (arrV (dT t) vs.length _) = some (arrV (dT t) (vs.set i v).length _)
    rw [List.length_set]
    congr 2
    funext j
    by_cases hj : j = i
    · subst hj
      simp [updV, hi]
    · simp [updV, hj, List.getD_eq_getElem?_getD, List.getElem?_set_ne (Ne.symm hj)]
  · rcases mj_mem_set hx with h | rfl
    · exact hR.2.2.2.1 o _ x ho h
    · exact hsc
theorem mj_read {t i : Nat} {vs : List Value} {v : Value} (hv : vs[i]? = some v) : (arrV (dT t) vs.length (fun j => rl ad (vs.getD j .null))).slots[i]? = some (rl ad v) := by
  rw [arrV_read _ _ (List.getElem?_eq_some_iff.mp hv).1]
  simp [hv]
theorem mh_getfield {i : Nat} (hexec : p.tables.exec = Jvm.exec) (hb : c.code = cc) (hown : s.vm.findClass own = some m.cls) (hts : ∀ w ∈ mjGl, w.before args s = true) (hK : va_K D vwCl (mjTys dT) s) (hd : decode cc pc = .ok (.getfield i, 3)) (hlk : mjLk own ini (.getfield i, n, a, b, w) = true)
    (h : mjHp scr (.getfield i, n, a, b, w) pc st hp = some (pc', st', hp')) (hR : mjR D dT ad A hp H) (hS : va_S A s.heap H locs)
    (k : ∀ (H' : Heap) (locs' : List Loc), mjR D dT ad A hp' H' → va_S A s.heap H' locs' → W p l e R s m args below meth c H' locs' cells slots Q (F0 m pc' arr (rls ad st'))) : W p l e R s m args below meth c H locs cells slots Q (F0 m pc arr (rls ad st)) := by
  obtain ⟨o, r, vs, v, rfl, ho, hv, ex⟩ : ∃ (o : Nat) (r : List Value) (vs : List Value) (v : Value), st = .ref o :: r ∧ hp[o]? = some (a, vs) ∧ vs[b]? = some v ∧ some (pc + 3, v :: r, hp) = some (pc', st', hp') := by
    simp only [mjHp] at h
    split at h
    · split at h
      · rename_i ho
        split at h
        · rename_i ht
          split at h
          · rename_i hv
            subst ht
            exact ⟨_, _, _, _, rfl, ho, hv, h⟩
          · cases h
        · cases h
      · cases h
    · cases h
  simp only [Option.some.injEq, Prod.mk.injEq] at ex
  obtain ⟨rfl, rfl, rfl⟩ := ex
  simp only [mjLk] at hlk
  split at hlk
  · rename_i rr hrr
    simp only [Bool.and_eq_true, decide_eq_true_eq] at hlk
    obtain ⟨hbN, hw⟩ := hlk
    obtain ⟨h10, hin, hty, hnm, -, -⟩ := mj_cls hrr
    obtain ⟨r', q0, hlen, cell, q1, q2, q3, q4⟩ := (hR.1 o _ ho).1 (Nat.lt_trans h10 (by omega))
    have hr : r' = rr := Option.some.inj (q0.symm.trans hrr)
    subst hr
    obtain ⟨hSl, hfc, kC, hkC, hkind⟩ := hK.1 a _ hrr
    obtain ⟨cf, kf, fi, f, hi, hsl⟩ := hSl b hbN
    refine W.getf hexec hb hown (hts _ (mjIs_in hw)) hi (u_facts hfc hkC (u_lays hts hin hbN) hi).1 q1 (by rw [q3]; exact fun h => by cases h) (v := rl ad v) ?_ rfl rfl hd (k H locs hR hS)
    rw [hsl, q4 b hbN]
    simp [hv]
  · cases hlk
theorem mh_putfield {i : Nat} (hexec : p.tables.exec = Jvm.exec) (hb : c.code = cc) (hown : s.vm.findClass own = some m.cls) (hts : ∀ w ∈ mjGl, w.before args s = true) (hK : va_K D vwCl (mjTys dT) s) (hini : ini = true → meth.name = "<init>") (hd : decode cc pc = .ok (.putfield i, 3)) (hlk : mjLk own ini (.putfield i, n, a, b, w) = true)
    (h : mjHp scr (.putfield i, n, a, b, w) pc st hp = some (pc', st', hp')) (hR : mjR D dT ad A hp H) (hS : va_S A s.heap H locs)
    (k : ∀ (H' : Heap) (locs' : List Loc), mjR D dT ad A hp' H' → va_S A s.heap H' locs' → W p l e R s m args below meth c H' locs' cells slots Q (F0 m pc' arr (rls ad st'))) : W p l e R s m args below meth c H locs cells slots Q (F0 m pc arr (rls ad st)) := by
  obtain ⟨o, r, vs, v, rfl, ho, hbl, hok, ex⟩ : ∃ (o : Nat) (r : List Value) (vs : List Value) (v : Value), st = v :: .ref o :: r ∧ hp[o]? = some (a, vs) ∧ b < vs.length ∧ mjOk (mjTy a b) hp.length v = true ∧ some (pc + 3, r, hp.set o (a, vs.set b v)) = some (pc', st', hp') := by
    simp only [mjHp] at h
    split at h
    · split at h
      · rename_i ho
        split at h
        · rename_i hv
          obtain ⟨rfl, h1, h2⟩ := hv
          exact ⟨_, _, _, _, rfl, ho, h1, h2, h⟩
        · cases h
      · cases h
    · cases h
  simp only [Option.some.injEq, Prod.mk.injEq] at ex
  obtain ⟨rfl, rfl, rfl⟩ := ex
  simp only [mjLk] at hlk
  split at hlk
  · rename_i rr hrr
    simp only [Bool.and_eq_true, decide_eq_true_eq, Bool.or_eq_true, Bool.not_eq_true'] at hlk
    obtain ⟨⟨hbN, hw⟩, hfin⟩ := hlk
    obtain ⟨h10, hin, hty, hnm, -, -⟩ := mj_cls hrr
    obtain ⟨hn1, hn2, hsc⟩ := mjOk_spec (ad := ad) hok
    obtain ⟨r', q0, hlen, cell, q1, q2, q3, q4⟩ := (hR.1 o _ ho).1 (Nat.lt_trans h10 (by omega))
    have hr : r' = rr := Option.some.inj (q0.symm.trans hrr)
    subst hr
    have hap := va_apart (own := own) hts hin (mjTy a) hty hnm hK hrr
    obtain ⟨hSl, hfc, kC, hkC, hkind⟩ := hK.1 a _ hrr
    obtain ⟨cf, kf, fi, f, hi, hsl⟩ := hSl b hbN
    have hlay := hts _ (hin _ (u_in_lay hbN))
    have hst := (u_facts hfc hkC (u_lays hts hin hbN) hi).1
    have fin : ∀ (H1 : Heap) (locs1 : List Loc), H1[ad o]? = some (cell.setSlot (D.2 a b) (rl ad v)) → H1.size = H.size → (∀ q : Nat, q ≠ ad o → H1[q]? = H[q]?) → va_S A s.heap H1 locs1 → W p l e R s m args below meth c H1 locs1 cells slots Q (F0 m (pc + 3) arr (rls ad r)) := by
      intro H1 locs1 e1 z1 oq hS1
      refine k H1 locs1 (hR.set ho ⟨fun _ => ⟨r', hrr, by rw [List.length_set]; exact hlen, ?_⟩, fun h => absurd h (by show ¬ 100 ≤ a; omega)⟩ (fun x hx => ?_) oq) hS1
      · refine t_OB.to (V := updV (fun k => rl ad (vs.getD k .null)) b (rl ad v)) ⟨_, e1, q2, q3, t_set q4 hap hbN _⟩ (fun j _ => ?_)
        by_cases hj : j = b
        · subst hj
          simp [updV, hbl]
        · simp [updV, hj, List.getD_eq_getElem?_getD, List.getElem?_set_ne (Ne.symm hj)]
      · rcases mj_mem_set hx with h | rfl
        · exact hR.2.2.2.1 o _ x ho h
        · exact hsc
    unfold u_lay at hlay
    rcases Bool.eq_false_or_eq_true (r'.2.1 b).2.2.2 with hf | hf
    · rw [if_pos hf] at hlay
      obtain ⟨hini2, hdecl⟩ := hfin.resolve_left (by rw [hf]; decide)
      have hcf : m.cls = cf := by
        obtain ⟨_, _, c', _, _, _, -, -, hf', -, -, -, hown2, -⟩ := Cond.laysFinal_spec hlay
        have e1 : c' = cf := by have := hi.symm.trans hf'; simp at this; exact this.1.symm
        rw [hdecl] at hown2
        rw [← e1]; exact Option.some.inj (hown.symm.trans hown2)
      have h6 := u_fits hfc hkC hkind (Or.inr hlay) hi (hty b hbN) hn1 hn2
      refine W.putFinK hexec hb hown (hts _ (mjIs_in hw)) hi hst hcf (hini hini2) (by rw [q2]; exact h6) q1 q3 (by rw [hsl]; exact k2_hasslot (q4 b hbN)) rfl rfl hd fun H' e1 e2 e3 => ?_
      rw [hsl] at e1 ⊢
      exact fin H' _ e1 e2 e3 (hS.put e2 e3 (hR.2.2.1 o (List.getElem?_eq_some_iff.mp ho).1))
    · rw [if_neg (by rw [hf]; decide)] at hlay
      have h6 := u_store hfc hkC hkind hlay hi (hty b hbN) hn1 hn2
      refine W.putK hexec hb (f := f) ⟨hown, hts _ (mjIs_in hw), ⟨_, _, _, hi⟩, hst⟩ (by rw [q2]; exact h6) q1 q3 (by rw [hsl]; exact k2_hasslot (q4 b hbN)) rfl rfl hd fun H' e1 e2 e3 => ?_
      rw [hsl] at e1 ⊢
      exact fin H' _ e1 e2 e3 (hS.put e2 e3 (hR.2.2.1 o (List.getElem?_eq_some_iff.mp ho).1))
  · cases hlk
end MJHR

/-! MJ: locals and stack: what mjAlu says the bytecode does -/
section MJALU
/-- static facts of an instruction: its places, its target -/
def mjPre (i : Instr) (pc b nL : Nat) : Bool := match i with
  | .istore_n k => decide ((k : Nat) < nL)
  | .astore_n k => decide ((k : Nat) < nL)
  | .lstore_n k => decide ((k : Nat) + 1 < nL)
  | .istore k => decide (k < nL)
  | .astore k => decide (k < nL)
  | .lstore k => decide (k + 1 < nL)
  | .ifCond _ o => decide ((pc : Int) + o = (b : Int))
  | .if_icmp _ o => decide ((pc : Int) + o = (b : Int))
  | .goto o => decide ((pc : Int) + o = (b : Int))
  | _ => true
variable {p : Program} {l : Launch} {e : Env} {R : Room} {s : State} {m : MethodId} {args : Array Value} {below : List Frame} {meth : Method} {c : Code} {cells slots : Nat} {Q : State → Prop} {cc : ByteArray} {nL : Nat} {H : Heap} {locs : List Loc} {arr : Array Slot} {ad : Nat → Nat} {pc n b pc' : Nat} {ls ls' : mjL} {st st' : List Value}
theorem mj_lt {l : List (Nat × Value)} {q : Nat × Value} (h : q ∈ l) : ∃ k : Nat, l[k]? = some q := List.getElem?_of_mem h

theorem ma_iconst {z : Int} (hexec : p.tables.exec = Jvm.exec) (hb : c.code = cc) (hd : decode cc pc = .ok (.iconst z, n)) (hlen : n = mjLen (.iconst z)) (hp : mjPre (.iconst z) pc b nL = true) (h : mjAlu (.iconst z) pc b ls st = some (pc', ls', st')) (hl : lv_has arr nL (rll ad ls))
    (k : ∀ arr' : Array Slot, lv_has arr' nL (rll ad ls') → W p l e R s m args below meth c H locs cells slots Q (F0 m pc' arr' (rls ad st'))) : W p l e R s m args below meth c H locs cells slots Q (F0 m pc arr (rls ad st)) := by
  subst hlen
  simp only [mjAlu, Option.some.injEq, Prod.mk.injEq] at h
  obtain ⟨rfl, rfl, rfl⟩ := h
  exact lv_iconst hexec hb hd rfl (k _ hl)
theorem ma_bipush {z : Int} (hexec : p.tables.exec = Jvm.exec) (hb : c.code = cc) (hd : decode cc pc = .ok (.bipush z, n)) (hlen : n = mjLen (.bipush z)) (hp : mjPre (.bipush z) pc b nL = true) (h : mjAlu (.bipush z) pc b ls st = some (pc', ls', st')) (hl : lv_has arr nL (rll ad ls))
    (k : ∀ arr' : Array Slot, lv_has arr' nL (rll ad ls') → W p l e R s m args below meth c H locs cells slots Q (F0 m pc' arr' (rls ad st'))) : W p l e R s m args below meth c H locs cells slots Q (F0 m pc arr (rls ad st)) := by
  subst hlen
  simp only [mjAlu, Option.some.injEq, Prod.mk.injEq] at h
  obtain ⟨rfl, rfl, rfl⟩ := h
  exact lv_bipush hexec hb hd rfl (k _ hl)
theorem ma_sipush {z : Int} (hexec : p.tables.exec = Jvm.exec) (hb : c.code = cc) (hd : decode cc pc = .ok (.sipush z, n)) (hlen : n = mjLen (.sipush z)) (hp : mjPre (.sipush z) pc b nL = true) (h : mjAlu (.sipush z) pc b ls st = some (pc', ls', st')) (hl : lv_has arr nL (rll ad ls))
    (k : ∀ arr' : Array Slot, lv_has arr' nL (rll ad ls') → W p l e R s m args below meth c H locs cells slots Q (F0 m pc' arr' (rls ad st'))) : W p l e R s m args below meth c H locs cells slots Q (F0 m pc arr (rls ad st)) := by
  subst hlen
  simp only [mjAlu, Option.some.injEq, Prod.mk.injEq] at h
  obtain ⟨rfl, rfl, rfl⟩ := h
  exact lv_sipush hexec hb hd rfl (k _ hl)
theorem ma_lconst {z : Fin 2} (hexec : p.tables.exec = Jvm.exec) (hb : c.code = cc) (hd : decode cc pc = .ok (.lconst z, n)) (hlen : n = mjLen (.lconst z)) (hp : mjPre (.lconst z) pc b nL = true) (h : mjAlu (.lconst z) pc b ls st = some (pc', ls', st')) (hl : lv_has arr nL (rll ad ls))
    (k : ∀ arr' : Array Slot, lv_has arr' nL (rll ad ls') → W p l e R s m args below meth c H locs cells slots Q (F0 m pc' arr' (rls ad st'))) : W p l e R s m args below meth c H locs cells slots Q (F0 m pc arr (rls ad st)) := by
  subst hlen
  simp only [mjAlu, Option.some.injEq, Prod.mk.injEq] at h
  obtain ⟨rfl, rfl, rfl⟩ := h
  exact lv_lconst hexec hb hd rfl (k _ hl)
theorem ma_iload_n {z : Fin 4} (hexec : p.tables.exec = Jvm.exec) (hb : c.code = cc) (hd : decode cc pc = .ok (.iload_n z, n)) (hlen : n = mjLen (.iload_n z)) (hp : mjPre (.iload_n z) pc b nL = true) (h : mjAlu (.iload_n z) pc b ls st = some (pc', ls', st')) (hl : lv_has arr nL (rll ad ls))
    (k : ∀ arr' : Array Slot, lv_has arr' nL (rll ad ls') → W p l e R s m args below meth c H locs cells slots Q (F0 m pc' arr' (rls ad st'))) : W p l e R s m args below meth c H locs cells slots Q (F0 m pc arr (rls ad st)) := by
  subst hlen
  obtain ⟨x, hx, e⟩ : ∃ x : Int32, mjGet ls (z : Nat) = some (.int x) ∧ some (pc + 1, ls, Value.int x :: st) = some (pc', ls', st') := by
    simp only [mjAlu] at h
    split at h
    · rename_i q; exact ⟨_, q, h⟩
    · cases h
  simp only [Option.some.injEq, Prod.mk.injEq] at e
  obtain ⟨rfl, rfl, rfl⟩ := e
  exact lv_iload_n hexec hb hd rfl (rll_get hl hx) (k _ hl)
theorem ma_iload {z : Nat} (hexec : p.tables.exec = Jvm.exec) (hb : c.code = cc) (hd : decode cc pc = .ok (.iload z, n)) (hlen : n = mjLen (.iload z)) (hp : mjPre (.iload z) pc b nL = true) (h : mjAlu (.iload z) pc b ls st = some (pc', ls', st')) (hl : lv_has arr nL (rll ad ls))
    (k : ∀ arr' : Array Slot, lv_has arr' nL (rll ad ls') → W p l e R s m args below meth c H locs cells slots Q (F0 m pc' arr' (rls ad st'))) : W p l e R s m args below meth c H locs cells slots Q (F0 m pc arr (rls ad st)) := by
  subst hlen
  obtain ⟨x, hx, e⟩ : ∃ x : Int32, mjGet ls z = some (.int x) ∧ some (pc + 2, ls, Value.int x :: st) = some (pc', ls', st') := by
    simp only [mjAlu] at h
    split at h
    · rename_i q; exact ⟨_, q, h⟩
    · cases h
  simp only [Option.some.injEq, Prod.mk.injEq] at e
  obtain ⟨rfl, rfl, rfl⟩ := e
  exact lv_iload hexec hb hd (rll_get hl hx) (k _ hl)
theorem ma_lload_n {z : Fin 4} (hexec : p.tables.exec = Jvm.exec) (hb : c.code = cc) (hd : decode cc pc = .ok (.lload_n z, n)) (hlen : n = mjLen (.lload_n z)) (hp : mjPre (.lload_n z) pc b nL = true) (h : mjAlu (.lload_n z) pc b ls st = some (pc', ls', st')) (hl : lv_has arr nL (rll ad ls))
    (k : ∀ arr' : Array Slot, lv_has arr' nL (rll ad ls') → W p l e R s m args below meth c H locs cells slots Q (F0 m pc' arr' (rls ad st'))) : W p l e R s m args below meth c H locs cells slots Q (F0 m pc arr (rls ad st)) := by
  subst hlen
  obtain ⟨x, hx, e⟩ : ∃ x : Int64, mjGet ls (z : Nat) = some (.long x) ∧ some (pc + 1, ls, Value.long x :: st) = some (pc', ls', st') := by
    simp only [mjAlu] at h
    split at h
    · rename_i q; exact ⟨_, q, h⟩
    · cases h
  simp only [Option.some.injEq, Prod.mk.injEq] at e
  obtain ⟨rfl, rfl, rfl⟩ := e
  exact lv_lload_n hexec hb hd rfl (rll_get hl hx) (k _ hl)
theorem ma_lload {z : Nat} (hexec : p.tables.exec = Jvm.exec) (hb : c.code = cc) (hd : decode cc pc = .ok (.lload z, n)) (hlen : n = mjLen (.lload z)) (hp : mjPre (.lload z) pc b nL = true) (h : mjAlu (.lload z) pc b ls st = some (pc', ls', st')) (hl : lv_has arr nL (rll ad ls))
    (k : ∀ arr' : Array Slot, lv_has arr' nL (rll ad ls') → W p l e R s m args below meth c H locs cells slots Q (F0 m pc' arr' (rls ad st'))) : W p l e R s m args below meth c H locs cells slots Q (F0 m pc arr (rls ad st)) := by
  subst hlen
  obtain ⟨x, hx, e⟩ : ∃ x : Int64, mjGet ls z = some (.long x) ∧ some (pc + 2, ls, Value.long x :: st) = some (pc', ls', st') := by
    simp only [mjAlu] at h
    split at h
    · rename_i q; exact ⟨_, q, h⟩
    · cases h
  simp only [Option.some.injEq, Prod.mk.injEq] at e
  obtain ⟨rfl, rfl, rfl⟩ := e
  exact lv_lload hexec hb hd (rll_get hl hx) (k _ hl)
theorem ma_aload_n {z : Fin 4} (hexec : p.tables.exec = Jvm.exec) (hb : c.code = cc) (hd : decode cc pc = .ok (.aload_n z, n)) (hlen : n = mjLen (.aload_n z)) (hp : mjPre (.aload_n z) pc b nL = true) (h : mjAlu (.aload_n z) pc b ls st = some (pc', ls', st')) (hl : lv_has arr nL (rll ad ls))
    (k : ∀ arr' : Array Slot, lv_has arr' nL (rll ad ls') → W p l e R s m args below meth c H locs cells slots Q (F0 m pc' arr' (rls ad st'))) : W p l e R s m args below meth c H locs cells slots Q (F0 m pc arr (rls ad st)) := by
  subst hlen
  obtain ⟨x, hx, e⟩ : ∃ x : Nat, mjGet ls (z : Nat) = some (.ref x) ∧ some (pc + 1, ls, Value.ref x :: st) = some (pc', ls', st') := by
    simp only [mjAlu] at h
    split at h
    · rename_i q; exact ⟨_, q, h⟩
    · cases h
  simp only [Option.some.injEq, Prod.mk.injEq] at e
  obtain ⟨rfl, rfl, rfl⟩ := e
  exact lv_aload_n hexec hb hd rfl (rll_get hl hx) (k _ hl)
theorem ma_aload {z : Nat} (hexec : p.tables.exec = Jvm.exec) (hb : c.code = cc) (hd : decode cc pc = .ok (.aload z, n)) (hlen : n = mjLen (.aload z)) (hp : mjPre (.aload z) pc b nL = true) (h : mjAlu (.aload z) pc b ls st = some (pc', ls', st')) (hl : lv_has arr nL (rll ad ls))
    (k : ∀ arr' : Array Slot, lv_has arr' nL (rll ad ls') → W p l e R s m args below meth c H locs cells slots Q (F0 m pc' arr' (rls ad st'))) : W p l e R s m args below meth c H locs cells slots Q (F0 m pc arr (rls ad st)) := by
  subst hlen
  obtain ⟨x, hx, e⟩ : ∃ x : Nat, mjGet ls z = some (.ref x) ∧ some (pc + 2, ls, Value.ref x :: st) = some (pc', ls', st') := by
    simp only [mjAlu] at h
    split at h
    · rename_i q; exact ⟨_, q, h⟩
    · cases h
  simp only [Option.some.injEq, Prod.mk.injEq] at e
  obtain ⟨rfl, rfl, rfl⟩ := e
  exact lv_aload hexec hb hd (rll_get hl hx) (k _ hl)
theorem ma_istore_n {z : Fin 4} (hexec : p.tables.exec = Jvm.exec) (hb : c.code = cc) (hd : decode cc pc = .ok (.istore_n z, n)) (hlen : n = mjLen (.istore_n z)) (hp : mjPre (.istore_n z) pc b nL = true) (h : mjAlu (.istore_n z) pc b ls st = some (pc', ls', st')) (hl : lv_has arr nL (rll ad ls))
    (k : ∀ arr' : Array Slot, lv_has arr' nL (rll ad ls') → W p l e R s m args below meth c H locs cells slots Q (F0 m pc' arr' (rls ad st'))) : W p l e R s m args below meth c H locs cells slots Q (F0 m pc arr (rls ad st)) := by
  subst hlen
  obtain ⟨x, r, rfl, e⟩ : ∃ (x : Int32) (r : List Value), st = .int x :: r ∧ some (pc + 1, mjSt (z : Nat) (.int x) ls, r) = some (pc', ls', st') := by
    simp only [mjAlu] at h
    split at h
    · exact ⟨_, _, rfl, h⟩
    · cases h
  simp only [Option.some.injEq, Prod.mk.injEq] at e
  obtain ⟨rfl, rfl, rfl⟩ := e
  have hp' := of_decide_eq_true hp
  exact lv_istore_n hexec hb hd rfl hl hp' rfl (fun ls' h' => k ls' (by rw [rll_st]; exact h'))
theorem ma_istore {z : Nat} (hexec : p.tables.exec = Jvm.exec) (hb : c.code = cc) (hd : decode cc pc = .ok (.istore z, n)) (hlen : n = mjLen (.istore z)) (hp : mjPre (.istore z) pc b nL = true) (h : mjAlu (.istore z) pc b ls st = some (pc', ls', st')) (hl : lv_has arr nL (rll ad ls))
    (k : ∀ arr' : Array Slot, lv_has arr' nL (rll ad ls') → W p l e R s m args below meth c H locs cells slots Q (F0 m pc' arr' (rls ad st'))) : W p l e R s m args below meth c H locs cells slots Q (F0 m pc arr (rls ad st)) := by
  subst hlen
  obtain ⟨x, r, rfl, e⟩ : ∃ (x : Int32) (r : List Value), st = .int x :: r ∧ some (pc + 2, mjSt z (.int x) ls, r) = some (pc', ls', st') := by
    simp only [mjAlu] at h
    split at h
    · exact ⟨_, _, rfl, h⟩
    · cases h
  simp only [Option.some.injEq, Prod.mk.injEq] at e
  obtain ⟨rfl, rfl, rfl⟩ := e
  have hp' := of_decide_eq_true hp
  exact lv_istore hexec hb hd hl hp' rfl (fun ls' h' => k ls' (by rw [rll_st]; exact h'))
theorem ma_lstore_n {z : Fin 4} (hexec : p.tables.exec = Jvm.exec) (hb : c.code = cc) (hd : decode cc pc = .ok (.lstore_n z, n)) (hlen : n = mjLen (.lstore_n z)) (hp : mjPre (.lstore_n z) pc b nL = true) (h : mjAlu (.lstore_n z) pc b ls st = some (pc', ls', st')) (hl : lv_has arr nL (rll ad ls))
    (k : ∀ arr' : Array Slot, lv_has arr' nL (rll ad ls') → W p l e R s m args below meth c H locs cells slots Q (F0 m pc' arr' (rls ad st'))) : W p l e R s m args below meth c H locs cells slots Q (F0 m pc arr (rls ad st)) := by
  subst hlen
  obtain ⟨x, r, rfl, e⟩ : ∃ (x : Int64) (r : List Value), st = .long x :: r ∧ some (pc + 1, mjSt2 (z : Nat) (.long x) ls, r) = some (pc', ls', st') := by
    simp only [mjAlu] at h
    split at h
    · exact ⟨_, _, rfl, h⟩
    · cases h
  simp only [Option.some.injEq, Prod.mk.injEq] at e
  obtain ⟨rfl, rfl, rfl⟩ := e
  have hp' := of_decide_eq_true hp
  exact lv_lstore_n hexec hb hd rfl hl hp' rfl (fun ls' h' => k ls' (by rw [rll_st2]; exact h'))
theorem ma_lstore {z : Nat} (hexec : p.tables.exec = Jvm.exec) (hb : c.code = cc) (hd : decode cc pc = .ok (.lstore z, n)) (hlen : n = mjLen (.lstore z)) (hp : mjPre (.lstore z) pc b nL = true) (h : mjAlu (.lstore z) pc b ls st = some (pc', ls', st')) (hl : lv_has arr nL (rll ad ls))
    (k : ∀ arr' : Array Slot, lv_has arr' nL (rll ad ls') → W p l e R s m args below meth c H locs cells slots Q (F0 m pc' arr' (rls ad st'))) : W p l e R s m args below meth c H locs cells slots Q (F0 m pc arr (rls ad st)) := by
  subst hlen
  obtain ⟨x, r, rfl, e⟩ : ∃ (x : Int64) (r : List Value), st = .long x :: r ∧ some (pc + 2, mjSt2 z (.long x) ls, r) = some (pc', ls', st') := by
    simp only [mjAlu] at h
    split at h
    · exact ⟨_, _, rfl, h⟩
    · cases h
  simp only [Option.some.injEq, Prod.mk.injEq] at e
  obtain ⟨rfl, rfl, rfl⟩ := e
  have hp' := of_decide_eq_true hp
  exact lv_lstore hexec hb hd hl hp' rfl (fun ls' h' => k ls' (by rw [rll_st2]; exact h'))
theorem ma_astore_n {z : Fin 4} (hexec : p.tables.exec = Jvm.exec) (hb : c.code = cc) (hd : decode cc pc = .ok (.astore_n z, n)) (hlen : n = mjLen (.astore_n z)) (hp : mjPre (.astore_n z) pc b nL = true) (h : mjAlu (.astore_n z) pc b ls st = some (pc', ls', st')) (hl : lv_has arr nL (rll ad ls))
    (k : ∀ arr' : Array Slot, lv_has arr' nL (rll ad ls') → W p l e R s m args below meth c H locs cells slots Q (F0 m pc' arr' (rls ad st'))) : W p l e R s m args below meth c H locs cells slots Q (F0 m pc arr (rls ad st)) := by
  subst hlen
  obtain ⟨x, r, rfl, e⟩ : ∃ (x : Nat) (r : List Value), st = .ref x :: r ∧ some (pc + 1, mjSt (z : Nat) (.ref x) ls, r) = some (pc', ls', st') := by
    simp only [mjAlu] at h
    split at h
    · exact ⟨_, _, rfl, h⟩
    · cases h
  simp only [Option.some.injEq, Prod.mk.injEq] at e
  obtain ⟨rfl, rfl, rfl⟩ := e
  have hp' := of_decide_eq_true hp
  exact lv_astore_n hexec hb hd rfl hl hp' rfl (fun ls' h' => k ls' (by rw [rll_st]; exact h'))
theorem ma_astore {z : Nat} (hexec : p.tables.exec = Jvm.exec) (hb : c.code = cc) (hd : decode cc pc = .ok (.astore z, n)) (hlen : n = mjLen (.astore z)) (hp : mjPre (.astore z) pc b nL = true) (h : mjAlu (.astore z) pc b ls st = some (pc', ls', st')) (hl : lv_has arr nL (rll ad ls))
    (k : ∀ arr' : Array Slot, lv_has arr' nL (rll ad ls') → W p l e R s m args below meth c H locs cells slots Q (F0 m pc' arr' (rls ad st'))) : W p l e R s m args below meth c H locs cells slots Q (F0 m pc arr (rls ad st)) := by
  subst hlen
  obtain ⟨x, r, rfl, e⟩ : ∃ (x : Nat) (r : List Value), st = .ref x :: r ∧ some (pc + 2, mjSt z (.ref x) ls, r) = some (pc', ls', st') := by
    simp only [mjAlu] at h
    split at h
    · exact ⟨_, _, rfl, h⟩
    · cases h
  simp only [Option.some.injEq, Prod.mk.injEq] at e
  obtain ⟨rfl, rfl, rfl⟩ := e
  have hp' := of_decide_eq_true hp
  exact lv_astore hexec hb hd hl hp' rfl (fun ls' h' => k ls' (by rw [rll_st]; exact h'))
theorem ma_iinc {z : Nat} {w : Int} (hexec : p.tables.exec = Jvm.exec) (hb : c.code = cc) (hd : decode cc pc = .ok (.iinc z w, n)) (hlen : n = mjLen (.iinc z w)) (hp : mjPre (.iinc z w) pc b nL = true) (h : mjAlu (.iinc z w) pc b ls st = some (pc', ls', st')) (hl : lv_has arr nL (rll ad ls))
    (k : ∀ arr' : Array Slot, lv_has arr' nL (rll ad ls') → W p l e R s m args below meth c H locs cells slots Q (F0 m pc' arr' (rls ad st'))) : W p l e R s m args below meth c H locs cells slots Q (F0 m pc arr (rls ad st)) := by
  subst hlen
  obtain ⟨x, hx, e⟩ : ∃ x : Int32, mjGet ls z = some (.int x) ∧ some (pc + 3, mjSt z (.int (x + Int32.ofInt w)) ls, st) = some (pc', ls', st') := by
    simp only [mjAlu] at h
    split at h
    · rename_i q; exact ⟨_, q, h⟩
    · cases h
  simp only [Option.some.injEq, Prod.mk.injEq] at e
  obtain ⟨rfl, rfl, rfl⟩ := e
  obtain ⟨j, hj⟩ := mj_lt (List.mem_map.mpr ⟨(z, .int x), mjGet_mem hx, rfl⟩ : (z, rl ad (.int x)) ∈ rll ad ls)
  have hz : z < nL := by
    have h1 := rll_get hl hx
    have h2 := (Array.getElem?_eq_some_iff.mp h1).1
    rw [hl.1] at h2
    exact h2
  exact lv_iinc hexec hb hd hl hj rfl hz rfl (fun ls' h' => k ls' (by rw [rll_st]; exact h'))
theorem ma_iadd (hexec : p.tables.exec = Jvm.exec) (hb : c.code = cc) (hd : decode cc pc = .ok (.iadd, n)) (hlen : n = mjLen (.iadd)) (hp : mjPre (.iadd) pc b nL = true) (h : mjAlu (.iadd) pc b ls st = some (pc', ls', st')) (hl : lv_has arr nL (rll ad ls))
    (k : ∀ arr' : Array Slot, lv_has arr' nL (rll ad ls') → W p l e R s m args below meth c H locs cells slots Q (F0 m pc' arr' (rls ad st'))) : W p l e R s m args below meth c H locs cells slots Q (F0 m pc arr (rls ad st)) := by
  subst hlen
  obtain ⟨y, x, r, rfl, e⟩ : ∃ (y x : Int32) (r : List Value), st = .int y :: .int x :: r ∧ some (pc + 1, ls, Value.int (x + y) :: r) = some (pc', ls', st') := by
    simp only [mjAlu] at h
    split at h
    · exact ⟨_, _, _, rfl, h⟩
    · cases h
  simp only [Option.some.injEq, Prod.mk.injEq] at e
  obtain ⟨rfl, rfl, rfl⟩ := e
  exact lv_iadd hexec hb hd (k _ hl)
theorem ma_isub (hexec : p.tables.exec = Jvm.exec) (hb : c.code = cc) (hd : decode cc pc = .ok (.isub, n)) (hlen : n = mjLen (.isub)) (hp : mjPre (.isub) pc b nL = true) (h : mjAlu (.isub) pc b ls st = some (pc', ls', st')) (hl : lv_has arr nL (rll ad ls))
    (k : ∀ arr' : Array Slot, lv_has arr' nL (rll ad ls') → W p l e R s m args below meth c H locs cells slots Q (F0 m pc' arr' (rls ad st'))) : W p l e R s m args below meth c H locs cells slots Q (F0 m pc arr (rls ad st)) := by
  subst hlen
  obtain ⟨y, x, r, rfl, e⟩ : ∃ (y x : Int32) (r : List Value), st = .int y :: .int x :: r ∧ some (pc + 1, ls, Value.int (x - y) :: r) = some (pc', ls', st') := by
    simp only [mjAlu] at h
    split at h
    · exact ⟨_, _, _, rfl, h⟩
    · cases h
  simp only [Option.some.injEq, Prod.mk.injEq] at e
  obtain ⟨rfl, rfl, rfl⟩ := e
  exact lv_isub hexec hb hd (k _ hl)
theorem ma_imul (hexec : p.tables.exec = Jvm.exec) (hb : c.code = cc) (hd : decode cc pc = .ok (.imul, n)) (hlen : n = mjLen (.imul)) (hp : mjPre (.imul) pc b nL = true) (h : mjAlu (.imul) pc b ls st = some (pc', ls', st')) (hl : lv_has arr nL (rll ad ls))
    (k : ∀ arr' : Array Slot, lv_has arr' nL (rll ad ls') → W p l e R s m args below meth c H locs cells slots Q (F0 m pc' arr' (rls ad st'))) : W p l e R s m args below meth c H locs cells slots Q (F0 m pc arr (rls ad st)) := by
  subst hlen
  obtain ⟨y, x, r, rfl, e⟩ : ∃ (y x : Int32) (r : List Value), st = .int y :: .int x :: r ∧ some (pc + 1, ls, Value.int (x * y) :: r) = some (pc', ls', st') := by
    simp only [mjAlu] at h
    split at h
    · exact ⟨_, _, _, rfl, h⟩
    · cases h
  simp only [Option.some.injEq, Prod.mk.injEq] at e
  obtain ⟨rfl, rfl, rfl⟩ := e
  exact lv_imul hexec hb hd (k _ hl)
theorem ma_iand (hexec : p.tables.exec = Jvm.exec) (hb : c.code = cc) (hd : decode cc pc = .ok (.iand, n)) (hlen : n = mjLen (.iand)) (hp : mjPre (.iand) pc b nL = true) (h : mjAlu (.iand) pc b ls st = some (pc', ls', st')) (hl : lv_has arr nL (rll ad ls))
    (k : ∀ arr' : Array Slot, lv_has arr' nL (rll ad ls') → W p l e R s m args below meth c H locs cells slots Q (F0 m pc' arr' (rls ad st'))) : W p l e R s m args below meth c H locs cells slots Q (F0 m pc arr (rls ad st)) := by
  subst hlen
  obtain ⟨y, x, r, rfl, e⟩ : ∃ (y x : Int32) (r : List Value), st = .int y :: .int x :: r ∧ some (pc + 1, ls, Value.int (x &&& y) :: r) = some (pc', ls', st') := by
    simp only [mjAlu] at h
    split at h
    · exact ⟨_, _, _, rfl, h⟩
    · cases h
  simp only [Option.some.injEq, Prod.mk.injEq] at e
  obtain ⟨rfl, rfl, rfl⟩ := e
  exact lv_iand hexec hb hd (k _ hl)
theorem ma_ior (hexec : p.tables.exec = Jvm.exec) (hb : c.code = cc) (hd : decode cc pc = .ok (.ior, n)) (hlen : n = mjLen (.ior)) (hp : mjPre (.ior) pc b nL = true) (h : mjAlu (.ior) pc b ls st = some (pc', ls', st')) (hl : lv_has arr nL (rll ad ls))
    (k : ∀ arr' : Array Slot, lv_has arr' nL (rll ad ls') → W p l e R s m args below meth c H locs cells slots Q (F0 m pc' arr' (rls ad st'))) : W p l e R s m args below meth c H locs cells slots Q (F0 m pc arr (rls ad st)) := by
  subst hlen
  obtain ⟨y, x, r, rfl, e⟩ : ∃ (y x : Int32) (r : List Value), st = .int y :: .int x :: r ∧ some (pc + 1, ls, Value.int (x ||| y) :: r) = some (pc', ls', st') := by
    simp only [mjAlu] at h
    split at h
    · exact ⟨_, _, _, rfl, h⟩
    · cases h
  simp only [Option.some.injEq, Prod.mk.injEq] at e
  obtain ⟨rfl, rfl, rfl⟩ := e
  exact lv_ior hexec hb hd (k _ hl)
theorem ma_ixor (hexec : p.tables.exec = Jvm.exec) (hb : c.code = cc) (hd : decode cc pc = .ok (.ixor, n)) (hlen : n = mjLen (.ixor)) (hp : mjPre (.ixor) pc b nL = true) (h : mjAlu (.ixor) pc b ls st = some (pc', ls', st')) (hl : lv_has arr nL (rll ad ls))
    (k : ∀ arr' : Array Slot, lv_has arr' nL (rll ad ls') → W p l e R s m args below meth c H locs cells slots Q (F0 m pc' arr' (rls ad st'))) : W p l e R s m args below meth c H locs cells slots Q (F0 m pc arr (rls ad st)) := by
  subst hlen
  obtain ⟨y, x, r, rfl, e⟩ : ∃ (y x : Int32) (r : List Value), st = .int y :: .int x :: r ∧ some (pc + 1, ls, Value.int (x ^^^ y) :: r) = some (pc', ls', st') := by
    simp only [mjAlu] at h
    split at h
    · exact ⟨_, _, _, rfl, h⟩
    · cases h
  simp only [Option.some.injEq, Prod.mk.injEq] at e
  obtain ⟨rfl, rfl, rfl⟩ := e
  exact lv_ixor hexec hb hd (k _ hl)
theorem ma_ishl (hexec : p.tables.exec = Jvm.exec) (hb : c.code = cc) (hd : decode cc pc = .ok (.ishl, n)) (hlen : n = mjLen (.ishl)) (hp : mjPre (.ishl) pc b nL = true) (h : mjAlu (.ishl) pc b ls st = some (pc', ls', st')) (hl : lv_has arr nL (rll ad ls))
    (k : ∀ arr' : Array Slot, lv_has arr' nL (rll ad ls') → W p l e R s m args below meth c H locs cells slots Q (F0 m pc' arr' (rls ad st'))) : W p l e R s m args below meth c H locs cells slots Q (F0 m pc arr (rls ad st)) := by
  subst hlen
  obtain ⟨y, x, r, rfl, e⟩ : ∃ (y x : Int32) (r : List Value), st = .int y :: .int x :: r ∧ some (pc + 1, ls, Value.int (x <<< (y &&& 31)) :: r) = some (pc', ls', st') := by
    simp only [mjAlu] at h
    split at h
    · exact ⟨_, _, _, rfl, h⟩
    · cases h
  simp only [Option.some.injEq, Prod.mk.injEq] at e
  obtain ⟨rfl, rfl, rfl⟩ := e
  exact lv_ishl hexec hb hd (k _ hl)
theorem ma_ishr (hexec : p.tables.exec = Jvm.exec) (hb : c.code = cc) (hd : decode cc pc = .ok (.ishr, n)) (hlen : n = mjLen (.ishr)) (hp : mjPre (.ishr) pc b nL = true) (h : mjAlu (.ishr) pc b ls st = some (pc', ls', st')) (hl : lv_has arr nL (rll ad ls))
    (k : ∀ arr' : Array Slot, lv_has arr' nL (rll ad ls') → W p l e R s m args below meth c H locs cells slots Q (F0 m pc' arr' (rls ad st'))) : W p l e R s m args below meth c H locs cells slots Q (F0 m pc arr (rls ad st)) := by
  subst hlen
  obtain ⟨y, x, r, rfl, e⟩ : ∃ (y x : Int32) (r : List Value), st = .int y :: .int x :: r ∧ some (pc + 1, ls, Value.int (x >>> (y &&& 31)) :: r) = some (pc', ls', st') := by
    simp only [mjAlu] at h
    split at h
    · exact ⟨_, _, _, rfl, h⟩
    · cases h
  simp only [Option.some.injEq, Prod.mk.injEq] at e
  obtain ⟨rfl, rfl, rfl⟩ := e
  exact lv_ishr hexec hb hd (k _ hl)
theorem ma_iushr (hexec : p.tables.exec = Jvm.exec) (hb : c.code = cc) (hd : decode cc pc = .ok (.iushr, n)) (hlen : n = mjLen (.iushr)) (hp : mjPre (.iushr) pc b nL = true) (h : mjAlu (.iushr) pc b ls st = some (pc', ls', st')) (hl : lv_has arr nL (rll ad ls))
    (k : ∀ arr' : Array Slot, lv_has arr' nL (rll ad ls') → W p l e R s m args below meth c H locs cells slots Q (F0 m pc' arr' (rls ad st'))) : W p l e R s m args below meth c H locs cells slots Q (F0 m pc arr (rls ad st)) := by
  subst hlen
  obtain ⟨y, x, r, rfl, e⟩ : ∃ (y x : Int32) (r : List Value), st = .int y :: .int x :: r ∧ some (pc + 1, ls, Value.int ((x.toUInt32 >>> (y.toUInt32 &&& Int32.toUInt32 31)).toInt32) :: r) = some (pc', ls', st') := by
    simp only [mjAlu] at h
    split at h
    · exact ⟨_, _, _, rfl, h⟩
    · cases h
  simp only [Option.some.injEq, Prod.mk.injEq] at e
  obtain ⟨rfl, rfl, rfl⟩ := e
  exact lv_iushr hexec hb hd rfl (k _ hl)
theorem ma_ladd (hexec : p.tables.exec = Jvm.exec) (hb : c.code = cc) (hd : decode cc pc = .ok (.ladd, n)) (hlen : n = mjLen (.ladd)) (hp : mjPre (.ladd) pc b nL = true) (h : mjAlu (.ladd) pc b ls st = some (pc', ls', st')) (hl : lv_has arr nL (rll ad ls))
    (k : ∀ arr' : Array Slot, lv_has arr' nL (rll ad ls') → W p l e R s m args below meth c H locs cells slots Q (F0 m pc' arr' (rls ad st'))) : W p l e R s m args below meth c H locs cells slots Q (F0 m pc arr (rls ad st)) := by
  subst hlen
  obtain ⟨y, x, r, rfl, e⟩ : ∃ (y x : Int64) (r : List Value), st = .long y :: .long x :: r ∧ some (pc + 1, ls, Value.long (x + y) :: r) = some (pc', ls', st') := by
    simp only [mjAlu] at h
    split at h
    · exact ⟨_, _, _, rfl, h⟩
    · cases h
  simp only [Option.some.injEq, Prod.mk.injEq] at e
  obtain ⟨rfl, rfl, rfl⟩ := e
  exact lv_ladd hexec hb hd (k _ hl)
theorem ma_lsub (hexec : p.tables.exec = Jvm.exec) (hb : c.code = cc) (hd : decode cc pc = .ok (.lsub, n)) (hlen : n = mjLen (.lsub)) (hp : mjPre (.lsub) pc b nL = true) (h : mjAlu (.lsub) pc b ls st = some (pc', ls', st')) (hl : lv_has arr nL (rll ad ls))
    (k : ∀ arr' : Array Slot, lv_has arr' nL (rll ad ls') → W p l e R s m args below meth c H locs cells slots Q (F0 m pc' arr' (rls ad st'))) : W p l e R s m args below meth c H locs cells slots Q (F0 m pc arr (rls ad st)) := by
  subst hlen
  obtain ⟨y, x, r, rfl, e⟩ : ∃ (y x : Int64) (r : List Value), st = .long y :: .long x :: r ∧ some (pc + 1, ls, Value.long (x - y) :: r) = some (pc', ls', st') := by
    simp only [mjAlu] at h
    split at h
    · exact ⟨_, _, _, rfl, h⟩
    · cases h
  simp only [Option.some.injEq, Prod.mk.injEq] at e
  obtain ⟨rfl, rfl, rfl⟩ := e
  exact lv_lsub hexec hb hd (k _ hl)
theorem ma_lmul (hexec : p.tables.exec = Jvm.exec) (hb : c.code = cc) (hd : decode cc pc = .ok (.lmul, n)) (hlen : n = mjLen (.lmul)) (hp : mjPre (.lmul) pc b nL = true) (h : mjAlu (.lmul) pc b ls st = some (pc', ls', st')) (hl : lv_has arr nL (rll ad ls))
    (k : ∀ arr' : Array Slot, lv_has arr' nL (rll ad ls') → W p l e R s m args below meth c H locs cells slots Q (F0 m pc' arr' (rls ad st'))) : W p l e R s m args below meth c H locs cells slots Q (F0 m pc arr (rls ad st)) := by
  subst hlen
  obtain ⟨y, x, r, rfl, e⟩ : ∃ (y x : Int64) (r : List Value), st = .long y :: .long x :: r ∧ some (pc + 1, ls, Value.long (x * y) :: r) = some (pc', ls', st') := by
    simp only [mjAlu] at h
    split at h
    · exact ⟨_, _, _, rfl, h⟩
    · cases h
  simp only [Option.some.injEq, Prod.mk.injEq] at e
  obtain ⟨rfl, rfl, rfl⟩ := e
  exact lv_lmul hexec hb hd (k _ hl)
theorem ma_land (hexec : p.tables.exec = Jvm.exec) (hb : c.code = cc) (hd : decode cc pc = .ok (.land, n)) (hlen : n = mjLen (.land)) (hp : mjPre (.land) pc b nL = true) (h : mjAlu (.land) pc b ls st = some (pc', ls', st')) (hl : lv_has arr nL (rll ad ls))
    (k : ∀ arr' : Array Slot, lv_has arr' nL (rll ad ls') → W p l e R s m args below meth c H locs cells slots Q (F0 m pc' arr' (rls ad st'))) : W p l e R s m args below meth c H locs cells slots Q (F0 m pc arr (rls ad st)) := by
  subst hlen
  obtain ⟨y, x, r, rfl, e⟩ : ∃ (y x : Int64) (r : List Value), st = .long y :: .long x :: r ∧ some (pc + 1, ls, Value.long (x &&& y) :: r) = some (pc', ls', st') := by
    simp only [mjAlu] at h
    split at h
    · exact ⟨_, _, _, rfl, h⟩
    · cases h
  simp only [Option.some.injEq, Prod.mk.injEq] at e
  obtain ⟨rfl, rfl, rfl⟩ := e
  exact lv_land hexec hb hd (k _ hl)
theorem ma_lor (hexec : p.tables.exec = Jvm.exec) (hb : c.code = cc) (hd : decode cc pc = .ok (.lor, n)) (hlen : n = mjLen (.lor)) (hp : mjPre (.lor) pc b nL = true) (h : mjAlu (.lor) pc b ls st = some (pc', ls', st')) (hl : lv_has arr nL (rll ad ls))
    (k : ∀ arr' : Array Slot, lv_has arr' nL (rll ad ls') → W p l e R s m args below meth c H locs cells slots Q (F0 m pc' arr' (rls ad st'))) : W p l e R s m args below meth c H locs cells slots Q (F0 m pc arr (rls ad st)) := by
  subst hlen
  obtain ⟨y, x, r, rfl, e⟩ : ∃ (y x : Int64) (r : List Value), st = .long y :: .long x :: r ∧ some (pc + 1, ls, Value.long (x ||| y) :: r) = some (pc', ls', st') := by
    simp only [mjAlu] at h
    split at h
    · exact ⟨_, _, _, rfl, h⟩
    · cases h
  simp only [Option.some.injEq, Prod.mk.injEq] at e
  obtain ⟨rfl, rfl, rfl⟩ := e
  exact lv_lor hexec hb hd (k _ hl)
theorem ma_lxor (hexec : p.tables.exec = Jvm.exec) (hb : c.code = cc) (hd : decode cc pc = .ok (.lxor, n)) (hlen : n = mjLen (.lxor)) (hp : mjPre (.lxor) pc b nL = true) (h : mjAlu (.lxor) pc b ls st = some (pc', ls', st')) (hl : lv_has arr nL (rll ad ls))
    (k : ∀ arr' : Array Slot, lv_has arr' nL (rll ad ls') → W p l e R s m args below meth c H locs cells slots Q (F0 m pc' arr' (rls ad st'))) : W p l e R s m args below meth c H locs cells slots Q (F0 m pc arr (rls ad st)) := by
  subst hlen
  obtain ⟨y, x, r, rfl, e⟩ : ∃ (y x : Int64) (r : List Value), st = .long y :: .long x :: r ∧ some (pc + 1, ls, Value.long (x ^^^ y) :: r) = some (pc', ls', st') := by
    simp only [mjAlu] at h
    split at h
    · exact ⟨_, _, _, rfl, h⟩
    · cases h
  simp only [Option.some.injEq, Prod.mk.injEq] at e
  obtain ⟨rfl, rfl, rfl⟩ := e
  exact lv_lxor hexec hb hd (k _ hl)
theorem ma_lshl (hexec : p.tables.exec = Jvm.exec) (hb : c.code = cc) (hd : decode cc pc = .ok (.lshl, n)) (hlen : n = mjLen (.lshl)) (hp : mjPre (.lshl) pc b nL = true) (h : mjAlu (.lshl) pc b ls st = some (pc', ls', st')) (hl : lv_has arr nL (rll ad ls))
    (k : ∀ arr' : Array Slot, lv_has arr' nL (rll ad ls') → W p l e R s m args below meth c H locs cells slots Q (F0 m pc' arr' (rls ad st'))) : W p l e R s m args below meth c H locs cells slots Q (F0 m pc arr (rls ad st)) := by
  subst hlen
  obtain ⟨y, x, r, rfl, e⟩ : ∃ (y : Int32) (x : Int64) (r : List Value), st = .int y :: .long x :: r ∧ some (pc + 1, ls, Value.long (x <<< (y.toInt64 &&& 63)) :: r) = some (pc', ls', st') := by
    simp only [mjAlu] at h
    split at h
    · exact ⟨_, _, _, rfl, h⟩
    · cases h
  simp only [Option.some.injEq, Prod.mk.injEq] at e
  obtain ⟨rfl, rfl, rfl⟩ := e
  exact lv_lshl hexec hb hd rfl (k _ hl)
theorem ma_lshr (hexec : p.tables.exec = Jvm.exec) (hb : c.code = cc) (hd : decode cc pc = .ok (.lshr, n)) (hlen : n = mjLen (.lshr)) (hp : mjPre (.lshr) pc b nL = true) (h : mjAlu (.lshr) pc b ls st = some (pc', ls', st')) (hl : lv_has arr nL (rll ad ls))
    (k : ∀ arr' : Array Slot, lv_has arr' nL (rll ad ls') → W p l e R s m args below meth c H locs cells slots Q (F0 m pc' arr' (rls ad st'))) : W p l e R s m args below meth c H locs cells slots Q (F0 m pc arr (rls ad st)) := by
  subst hlen
  obtain ⟨y, x, r, rfl, e⟩ : ∃ (y : Int32) (x : Int64) (r : List Value), st = .int y :: .long x :: r ∧ some (pc + 1, ls, Value.long (x >>> (y.toInt64 &&& 63)) :: r) = some (pc', ls', st') := by
    simp only [mjAlu] at h
    split at h
    · exact ⟨_, _, _, rfl, h⟩
    · cases h
  simp only [Option.some.injEq, Prod.mk.injEq] at e
  obtain ⟨rfl, rfl, rfl⟩ := e
  exact lv_lshr hexec hb hd rfl (k _ hl)
theorem ma_lushr (hexec : p.tables.exec = Jvm.exec) (hb : c.code = cc) (hd : decode cc pc = .ok (.lushr, n)) (hlen : n = mjLen (.lushr)) (hp : mjPre (.lushr) pc b nL = true) (h : mjAlu (.lushr) pc b ls st = some (pc', ls', st')) (hl : lv_has arr nL (rll ad ls))
    (k : ∀ arr' : Array Slot, lv_has arr' nL (rll ad ls') → W p l e R s m args below meth c H locs cells slots Q (F0 m pc' arr' (rls ad st'))) : W p l e R s m args below meth c H locs cells slots Q (F0 m pc arr (rls ad st)) := by
  subst hlen
  obtain ⟨y, x, r, rfl, e⟩ : ∃ (y : Int32) (x : Int64) (r : List Value), st = .int y :: .long x :: r ∧ some (pc + 1, ls, Value.long ((x.toUInt64 >>> (y.toInt64.toUInt64 &&& Int64.toUInt64 63)).toInt64) :: r) = some (pc', ls', st') := by
    simp only [mjAlu] at h
    split at h
    · exact ⟨_, _, _, rfl, h⟩
    · cases h
  simp only [Option.some.injEq, Prod.mk.injEq] at e
  obtain ⟨rfl, rfl, rfl⟩ := e
  exact lv_lushr hexec hb hd rfl (k _ hl)
theorem ma_lcmp (hexec : p.tables.exec = Jvm.exec) (hb : c.code = cc) (hd : decode cc pc = .ok (.lcmp, n)) (hlen : n = mjLen (.lcmp)) (hp : mjPre (.lcmp) pc b nL = true) (h : mjAlu (.lcmp) pc b ls st = some (pc', ls', st')) (hl : lv_has arr nL (rll ad ls))
    (k : ∀ arr' : Array Slot, lv_has arr' nL (rll ad ls') → W p l e R s m args below meth c H locs cells slots Q (F0 m pc' arr' (rls ad st'))) : W p l e R s m args below meth c H locs cells slots Q (F0 m pc arr (rls ad st)) := by
  subst hlen
  obtain ⟨y, x, r, rfl, e⟩ : ∃ (y x : Int64) (r : List Value), st = .long y :: .long x :: r ∧ some (pc + 1, ls, Value.int (lg_cmp x y) :: r) = some (pc', ls', st') := by
    simp only [mjAlu] at h
    split at h
    · exact ⟨_, _, _, rfl, h⟩
    · cases h
  simp only [Option.some.injEq, Prod.mk.injEq] at e
  obtain ⟨rfl, rfl, rfl⟩ := e
  exact W.lcmp hexec hb hd (k _ hl)
theorem ma_irem (hexec : p.tables.exec = Jvm.exec) (hb : c.code = cc) (hd : decode cc pc = .ok (.irem, n)) (hlen : n = mjLen (.irem)) (hp : mjPre (.irem) pc b nL = true) (h : mjAlu (.irem) pc b ls st = some (pc', ls', st')) (hl : lv_has arr nL (rll ad ls))
    (k : ∀ arr' : Array Slot, lv_has arr' nL (rll ad ls') → W p l e R s m args below meth c H locs cells slots Q (F0 m pc' arr' (rls ad st'))) : W p l e R s m args below meth c H locs cells slots Q (F0 m pc arr (rls ad st)) := by
  subst hlen
  obtain ⟨y, x, r, hy, rfl, e⟩ : ∃ (y x : Int32) (r : List Value), ¬ y = 0 ∧ st = .int y :: .int x :: r ∧ some (pc + 1, ls, Value.int (x - x / y * y) :: r) = some (pc', ls', st') := by
    simp only [mjAlu] at h
    split at h
    · split at h
      · cases h
      · rename_i q; exact ⟨_, _, _, q, rfl, h⟩
    · cases h
  simp only [Option.some.injEq, Prod.mk.injEq] at e
  obtain ⟨rfl, rfl, rfl⟩ := e
  exact lv_irem hexec hb hd hy (k _ hl)
theorem ma_i2l (hexec : p.tables.exec = Jvm.exec) (hb : c.code = cc) (hd : decode cc pc = .ok (.i2l, n)) (hlen : n = mjLen (.i2l)) (hp : mjPre (.i2l) pc b nL = true) (h : mjAlu (.i2l) pc b ls st = some (pc', ls', st')) (hl : lv_has arr nL (rll ad ls))
    (k : ∀ arr' : Array Slot, lv_has arr' nL (rll ad ls') → W p l e R s m args below meth c H locs cells slots Q (F0 m pc' arr' (rls ad st'))) : W p l e R s m args below meth c H locs cells slots Q (F0 m pc arr (rls ad st)) := by
  subst hlen
  obtain ⟨x, r, rfl, e⟩ : ∃ (x : Int32) (r : List Value), st = .int x :: r ∧ some (pc + 1, ls, Value.long (x.toInt64) :: r) = some (pc', ls', st') := by
    simp only [mjAlu] at h
    split at h
    · exact ⟨_, _, rfl, h⟩
    · cases h
  simp only [Option.some.injEq, Prod.mk.injEq] at e
  obtain ⟨rfl, rfl, rfl⟩ := e
  exact lv_i2l hexec hb hd rfl (k _ hl)
theorem ma_l2i (hexec : p.tables.exec = Jvm.exec) (hb : c.code = cc) (hd : decode cc pc = .ok (.l2i, n)) (hlen : n = mjLen (.l2i)) (hp : mjPre (.l2i) pc b nL = true) (h : mjAlu (.l2i) pc b ls st = some (pc', ls', st')) (hl : lv_has arr nL (rll ad ls))
    (k : ∀ arr' : Array Slot, lv_has arr' nL (rll ad ls') → W p l e R s m args below meth c H locs cells slots Q (F0 m pc' arr' (rls ad st'))) : W p l e R s m args below meth c H locs cells slots Q (F0 m pc arr (rls ad st)) := by
  subst hlen
  obtain ⟨x, r, rfl, e⟩ : ∃ (x : Int64) (r : List Value), st = .long x :: r ∧ some (pc + 1, ls, Value.int (x.toInt32) :: r) = some (pc', ls', st') := by
    simp only [mjAlu] at h
    split at h
    · exact ⟨_, _, rfl, h⟩
    · cases h
  simp only [Option.some.injEq, Prod.mk.injEq] at e
  obtain ⟨rfl, rfl, rfl⟩ := e
  exact lv_l2i hexec hb hd rfl (k _ hl)
theorem ma_i2b (hexec : p.tables.exec = Jvm.exec) (hb : c.code = cc) (hd : decode cc pc = .ok (.i2b, n)) (hlen : n = mjLen (.i2b)) (hp : mjPre (.i2b) pc b nL = true) (h : mjAlu (.i2b) pc b ls st = some (pc', ls', st')) (hl : lv_has arr nL (rll ad ls))
    (k : ∀ arr' : Array Slot, lv_has arr' nL (rll ad ls') → W p l e R s m args below meth c H locs cells slots Q (F0 m pc' arr' (rls ad st'))) : W p l e R s m args below meth c H locs cells slots Q (F0 m pc arr (rls ad st)) := by
  subst hlen
  obtain ⟨x, r, rfl, e⟩ : ∃ (x : Int32) (r : List Value), st = .int x :: r ∧ some (pc + 1, ls, Value.int (x.toInt8.toInt32) :: r) = some (pc', ls', st') := by
    simp only [mjAlu] at h
    split at h
    · exact ⟨_, _, rfl, h⟩
    · cases h
  simp only [Option.some.injEq, Prod.mk.injEq] at e
  obtain ⟨rfl, rfl, rfl⟩ := e
  exact lv_i2b hexec hb hd rfl (k _ hl)
theorem ma_dup (hexec : p.tables.exec = Jvm.exec) (hb : c.code = cc) (hd : decode cc pc = .ok (.dup, n)) (hlen : n = mjLen (.dup)) (hp : mjPre (.dup) pc b nL = true) (h : mjAlu (.dup) pc b ls st = some (pc', ls', st')) (hl : lv_has arr nL (rll ad ls))
    (k : ∀ arr' : Array Slot, lv_has arr' nL (rll ad ls') → W p l e R s m args below meth c H locs cells slots Q (F0 m pc' arr' (rls ad st'))) : W p l e R s m args below meth c H locs cells slots Q (F0 m pc arr (rls ad st)) := by
  subst hlen
  obtain ⟨v, r, hv, rfl, e⟩ : ∃ (v : Value) (r : List Value), v.category = 1 ∧ st = v :: r ∧ some (pc + 1, ls, v :: v :: r) = some (pc', ls', st') := by
    simp only [mjAlu] at h
    split at h
    · split at h
      · rename_i q; exact ⟨_, _, q, rfl, h⟩
      · cases h
    · cases h
  simp only [Option.some.injEq, Prod.mk.injEq] at e
  obtain ⟨rfl, rfl, rfl⟩ := e
  exact lv_dup hexec hb hd ((rl_cat ad v).trans hv) (k _ hl)
theorem ma_pop (hexec : p.tables.exec = Jvm.exec) (hb : c.code = cc) (hd : decode cc pc = .ok (.pop, n)) (hlen : n = mjLen (.pop)) (hp : mjPre (.pop) pc b nL = true) (h : mjAlu (.pop) pc b ls st = some (pc', ls', st')) (hl : lv_has arr nL (rll ad ls))
    (k : ∀ arr' : Array Slot, lv_has arr' nL (rll ad ls') → W p l e R s m args below meth c H locs cells slots Q (F0 m pc' arr' (rls ad st'))) : W p l e R s m args below meth c H locs cells slots Q (F0 m pc arr (rls ad st)) := by
  subst hlen
  obtain ⟨v, r, hv, rfl, e⟩ : ∃ (v : Value) (r : List Value), v.category = 1 ∧ st = v :: r ∧ some (pc + 1, ls, r) = some (pc', ls', st') := by
    simp only [mjAlu] at h
    split at h
    · split at h
      · rename_i q; exact ⟨_, _, q, rfl, h⟩
      · cases h
    · cases h
  simp only [Option.some.injEq, Prod.mk.injEq] at e
  obtain ⟨rfl, rfl, rfl⟩ := e
  exact lv_pop hexec hb hd ((rl_cat ad v).trans hv) (k _ hl)
theorem ma_dup2 (hexec : p.tables.exec = Jvm.exec) (hb : c.code = cc) (hd : decode cc pc = .ok (.dup2, n)) (hlen : n = mjLen (.dup2)) (hp : mjPre (.dup2) pc b nL = true) (h : mjAlu (.dup2) pc b ls st = some (pc', ls', st')) (hl : lv_has arr nL (rll ad ls))
    (k : ∀ arr' : Array Slot, lv_has arr' nL (rll ad ls') → W p l e R s m args below meth c H locs cells slots Q (F0 m pc' arr' (rls ad st'))) : W p l e R s m args below meth c H locs cells slots Q (F0 m pc arr (rls ad st)) := by
  subst hlen
  obtain ⟨v, w, r, hv, rfl, e⟩ : ∃ (v w : Value) (r : List Value), (v.category = 1 ∧ w.category = 1) ∧ st = v :: w :: r ∧ some (pc + 1, ls, v :: w :: v :: w :: r) = some (pc', ls', st') := by
    simp only [mjAlu] at h
    split at h
    · split at h
      · rename_i q; exact ⟨_, _, _, q, rfl, h⟩
      · cases h
    · cases h
  simp only [Option.some.injEq, Prod.mk.injEq] at e
  obtain ⟨rfl, rfl, rfl⟩ := e
  exact lv_dup2_11 hexec hb hd ((rl_cat ad v).trans hv.1) ((rl_cat ad w).trans hv.2) (k _ hl)
theorem ma_ifCond {q : Jvm.ClassFile.Cond} {z : Int} (hexec : p.tables.exec = Jvm.exec) (hb : c.code = cc) (hd : decode cc pc = .ok (.ifCond q z, n)) (hlen : n = mjLen (.ifCond q z)) (hp : mjPre (.ifCond q z) pc b nL = true) (h : mjAlu (.ifCond q z) pc b ls st = some (pc', ls', st')) (hl : lv_has arr nL (rll ad ls))
    (k : ∀ arr' : Array Slot, lv_has arr' nL (rll ad ls') → W p l e R s m args below meth c H locs cells slots Q (F0 m pc' arr' (rls ad st'))) : W p l e R s m args below meth c H locs cells slots Q (F0 m pc arr (rls ad st)) := by
  subst hlen
  obtain ⟨x, r, rfl, e⟩ : ∃ (x : Int32) (r : List Value), st = .int x :: r ∧ some (if mjC q x 0 then b else pc + 3, ls, r) = some (pc', ls', st') := by
    simp only [mjAlu] at h
    split at h
    · exact ⟨_, _, rfl, h⟩
    · cases h
  simp only [Option.some.injEq, Prod.mk.injEq] at e
  obtain ⟨e1, rfl, rfl⟩ := e
  have ht := of_decide_eq_true hp
  have K1 : mjC q x 0 = true → W p l e R s m args below meth c H locs cells slots Q (F0 m b arr (rls ad r)) := fun hq => by
    rw [if_pos hq] at e1
    rw [e1]
    exact k _ hl
  have K2 : mjC q x 0 = false → W p l e R s m args below meth c H locs cells slots Q (F0 m (pc + 3) arr (rls ad r)) := fun hq => by
    rw [if_neg (by simp [hq])] at e1
    rw [e1]
    exact k _ hl
  cases q with
  | eq => exact lv_if_eq hexec hb hd ht (fun q => K1 (by simp [mjC, q])) (fun q => K2 (by simp [mjC, q]))
  | ne => exact lv_if_ne hexec hb hd ht (fun q => K1 (by simp [mjC, q])) (fun q => K2 (by simp [mjC, q]))
  | lt => exact lv_if_lt hexec hb hd ht (fun q => K1 (by simp [mjC, q])) (fun q => K2 (by simp [mjC, q]))
  | ge => exact lv_if_ge hexec hb hd ht (fun q => K1 (by simp [mjC, q])) (fun q => K2 (by simp [mjC, q]))
  | gt => exact lv_if_gt hexec hb hd ht (fun q => K1 (by simp [mjC, q])) (fun q => K2 (by simp [mjC, q]))
  | le => exact lv_if_le hexec hb hd ht (fun q => K1 (by simp [mjC, q])) (fun q => K2 (by simp [mjC, q]))

theorem ma_if_icmp {q : Jvm.ClassFile.Cond} {z : Int} (hexec : p.tables.exec = Jvm.exec) (hb : c.code = cc) (hd : decode cc pc = .ok (.if_icmp q z, n)) (hlen : n = mjLen (.if_icmp q z)) (hp : mjPre (.if_icmp q z) pc b nL = true) (h : mjAlu (.if_icmp q z) pc b ls st = some (pc', ls', st')) (hl : lv_has arr nL (rll ad ls))
    (k : ∀ arr' : Array Slot, lv_has arr' nL (rll ad ls') → W p l e R s m args below meth c H locs cells slots Q (F0 m pc' arr' (rls ad st'))) : W p l e R s m args below meth c H locs cells slots Q (F0 m pc arr (rls ad st)) := by
  subst hlen
  obtain ⟨y, x, r, rfl, e⟩ : ∃ (y x : Int32) (r : List Value), st = .int y :: .int x :: r ∧ some (if mjC q x y then b else pc + 3, ls, r) = some (pc', ls', st') := by
    simp only [mjAlu] at h
    split at h
    · exact ⟨_, _, _, rfl, h⟩
    · cases h
  simp only [Option.some.injEq, Prod.mk.injEq] at e
  obtain ⟨e1, rfl, rfl⟩ := e
  have ht := of_decide_eq_true hp
  have K1 : mjC q x y = true → W p l e R s m args below meth c H locs cells slots Q (F0 m b arr (rls ad r)) := fun hq => by
    rw [if_pos hq] at e1
    rw [e1]
    exact k _ hl
  have K2 : mjC q x y = false → W p l e R s m args below meth c H locs cells slots Q (F0 m (pc + 3) arr (rls ad r)) := fun hq => by
    rw [if_neg (by simp [hq])] at e1
    rw [e1]
    exact k _ hl
  cases q with
  | eq => exact lv_icmp_eq hexec hb hd ht (fun q => K1 (by simp [mjC, q])) (fun q => K2 (by simp [mjC, q]))
  | ne => exact lv_icmp_ne hexec hb hd ht (fun q => K1 (by simp [mjC, q])) (fun q => K2 (by simp [mjC, q]))
  | lt => exact lv_icmp_lt hexec hb hd ht (fun q => K1 (by simp [mjC, q])) (fun q => K2 (by simp [mjC, q]))
  | ge => exact lv_icmp_ge hexec hb hd ht (fun q => K1 (by simp [mjC, q])) (fun q => K2 (by simp [mjC, q]))
  | gt => exact lv_icmp_gt hexec hb hd ht (fun q => K1 (by simp [mjC, q])) (fun q => K2 (by simp [mjC, q]))
  | le => exact lv_icmp_le hexec hb hd ht (fun q => K1 (by simp [mjC, q])) (fun q => K2 (by simp [mjC, q]))

theorem ma_goto {z : Int} (hexec : p.tables.exec = Jvm.exec) (hb : c.code = cc) (hd : decode cc pc = .ok (.goto z, n)) (hlen : n = mjLen (.goto z)) (hp : mjPre (.goto z) pc b nL = true) (h : mjAlu (.goto z) pc b ls st = some (pc', ls', st')) (hl : lv_has arr nL (rll ad ls))
    (k : ∀ arr' : Array Slot, lv_has arr' nL (rll ad ls') → W p l e R s m args below meth c H locs cells slots Q (F0 m pc' arr' (rls ad st'))) : W p l e R s m args below meth c H locs cells slots Q (F0 m pc arr (rls ad st)) := by
  subst hlen
  simp only [mjAlu, Option.some.injEq, Prod.mk.injEq] at h
  obtain ⟨rfl, rfl, rfl⟩ := h
  exact lv_goto hexec hb hd (of_decide_eq_true hp) (k _ hl)
theorem ma_tableswitch {dflt lo hi : Int} {offs : Array Int} (hexec : p.tables.exec = Jvm.exec) (hb : c.code = cc) (hd : decode cc pc = .ok (.tableswitch dflt lo hi offs, n)) (h : mjAlu (.tableswitch dflt lo hi offs) pc b ls st = some (pc', ls', st')) (hl : lv_has arr nL (rll ad ls))
    (k : ∀ arr' : Array Slot, lv_has arr' nL (rll ad ls') → W p l e R s m args below meth c H locs cells slots Q (F0 m pc' arr' (rls ad st'))) : W p l e R s m args below meth c H locs cells slots Q (F0 m pc arr (rls ad st)) := by
  simp only [mjAlu] at h
  split at h
  · rename_i x r
    split at h
    · rename_i hx
      split at h
      · rename_i hz
        simp only [Option.some.injEq, Prod.mk.injEq] at h
        obtain ⟨rfl, rfl, rfl⟩ := h
        exact lv_tableOut hexec hb hd hx hz.symm (k _ hl)
      · cases h
    · rename_i hx
      split at h
      · rename_i o ho
        split at h
        · rename_i hz
          simp only [Option.some.injEq, Prod.mk.injEq] at h
          obtain ⟨rfl, rfl, rfl⟩ := h
          exact lv_tableIn hexec hb hd (fun q => hx (Or.inl q)) (fun q => hx (Or.inr q)) ho hz.symm (k _ hl)
        · cases h
      · cases h
  · cases h
theorem ma_lookupswitch {dflt : Int} {ps : Array (Int × Int)} (hexec : p.tables.exec = Jvm.exec) (hb : c.code = cc) (hd : decode cc pc = .ok (.lookupswitch dflt ps, n)) (h : mjAlu (.lookupswitch dflt ps) pc b ls st = some (pc', ls', st')) (hl : lv_has arr nL (rll ad ls))
    (k : ∀ arr' : Array Slot, lv_has arr' nL (rll ad ls') → W p l e R s m args below meth c H locs cells slots Q (F0 m pc' arr' (rls ad st'))) : W p l e R s m args below meth c H locs cells slots Q (F0 m pc arr (rls ad st)) := by
  simp only [mjAlu] at h
  split at h
  · rename_i x r
    split at h
    · rename_i hz
      simp only [Option.some.injEq, Prod.mk.injEq] at h
      obtain ⟨rfl, rfl, rfl⟩ := h
      exact lv_lookup hexec hb hd hz.1 rfl hz.2.symm (k _ hl)
    · cases h
  · cases h
theorem mjAlu_ok {i : Instr} (hexec : p.tables.exec = Jvm.exec) (hb : c.code = cc) (hd : decode cc pc = .ok (i, n)) (hlen : mjLen i = 0 ∨ n = mjLen i) (hp : mjPre i pc b nL = true) (h : mjAlu i pc b ls st = some (pc', ls', st')) (hl : lv_has arr nL (rll ad ls))
    (k : ∀ arr' : Array Slot, lv_has arr' nL (rll ad ls') → W p l e R s m args below meth c H locs cells slots Q (F0 m pc' arr' (rls ad st'))) : W p l e R s m args below meth c H locs cells slots Q (F0 m pc arr (rls ad st)) := by
  cases i with
  | iconst z => exact ma_iconst hexec hb hd (hlen.resolve_left (by simp [mjLen])) hp h hl k
  | bipush z => exact ma_bipush hexec hb hd (hlen.resolve_left (by simp [mjLen])) hp h hl k
  | sipush z => exact ma_sipush hexec hb hd (hlen.resolve_left (by simp [mjLen])) hp h hl k
  | lconst z => exact ma_lconst hexec hb hd (hlen.resolve_left (by simp [mjLen])) hp h hl k
  | iload_n z => exact ma_iload_n hexec hb hd (hlen.resolve_left (by simp [mjLen])) hp h hl k
  | iload z => exact ma_iload hexec hb hd (hlen.resolve_left (by simp [mjLen])) hp h hl k
  | lload_n z => exact ma_lload_n hexec hb hd (hlen.resolve_left (by simp [mjLen])) hp h hl k
  | lload z => exact ma_lload hexec hb hd (hlen.resolve_left (by simp [mjLen])) hp h hl k
  | aload_n z => exact ma_aload_n hexec hb hd (hlen.resolve_left (by simp [mjLen])) hp h hl k
  | aload z => exact ma_aload hexec hb hd (hlen.resolve_left (by simp [mjLen])) hp h hl k
  | istore_n z => exact ma_istore_n hexec hb hd (hlen.resolve_left (by simp [mjLen])) hp h hl k
  | istore z => exact ma_istore hexec hb hd (hlen.resolve_left (by simp [mjLen])) hp h hl k
  | lstore_n z => exact ma_lstore_n hexec hb hd (hlen.resolve_left (by simp [mjLen])) hp h hl k
  | lstore z => exact ma_lstore hexec hb hd (hlen.resolve_left (by simp [mjLen])) hp h hl k
  | astore_n z => exact ma_astore_n hexec hb hd (hlen.resolve_left (by simp [mjLen])) hp h hl k
  | astore z => exact ma_astore hexec hb hd (hlen.resolve_left (by simp [mjLen])) hp h hl k
  | iinc z w => exact ma_iinc hexec hb hd (hlen.resolve_left (by simp [mjLen])) hp h hl k
  | iadd => exact ma_iadd hexec hb hd (hlen.resolve_left (by simp [mjLen])) hp h hl k
  | isub => exact ma_isub hexec hb hd (hlen.resolve_left (by simp [mjLen])) hp h hl k
  | imul => exact ma_imul hexec hb hd (hlen.resolve_left (by simp [mjLen])) hp h hl k
  | iand => exact ma_iand hexec hb hd (hlen.resolve_left (by simp [mjLen])) hp h hl k
  | ior => exact ma_ior hexec hb hd (hlen.resolve_left (by simp [mjLen])) hp h hl k
  | ixor => exact ma_ixor hexec hb hd (hlen.resolve_left (by simp [mjLen])) hp h hl k
  | ishl => exact ma_ishl hexec hb hd (hlen.resolve_left (by simp [mjLen])) hp h hl k
  | ishr => exact ma_ishr hexec hb hd (hlen.resolve_left (by simp [mjLen])) hp h hl k
  | iushr => exact ma_iushr hexec hb hd (hlen.resolve_left (by simp [mjLen])) hp h hl k
  | ladd => exact ma_ladd hexec hb hd (hlen.resolve_left (by simp [mjLen])) hp h hl k
  | lsub => exact ma_lsub hexec hb hd (hlen.resolve_left (by simp [mjLen])) hp h hl k
  | lmul => exact ma_lmul hexec hb hd (hlen.resolve_left (by simp [mjLen])) hp h hl k
  | land => exact ma_land hexec hb hd (hlen.resolve_left (by simp [mjLen])) hp h hl k
  | lor => exact ma_lor hexec hb hd (hlen.resolve_left (by simp [mjLen])) hp h hl k
  | lxor => exact ma_lxor hexec hb hd (hlen.resolve_left (by simp [mjLen])) hp h hl k
  | lshl => exact ma_lshl hexec hb hd (hlen.resolve_left (by simp [mjLen])) hp h hl k
  | lshr => exact ma_lshr hexec hb hd (hlen.resolve_left (by simp [mjLen])) hp h hl k
  | lushr => exact ma_lushr hexec hb hd (hlen.resolve_left (by simp [mjLen])) hp h hl k
  | lcmp => exact ma_lcmp hexec hb hd (hlen.resolve_left (by simp [mjLen])) hp h hl k
  | irem => exact ma_irem hexec hb hd (hlen.resolve_left (by simp [mjLen])) hp h hl k
  | i2l => exact ma_i2l hexec hb hd (hlen.resolve_left (by simp [mjLen])) hp h hl k
  | l2i => exact ma_l2i hexec hb hd (hlen.resolve_left (by simp [mjLen])) hp h hl k
  | i2b => exact ma_i2b hexec hb hd (hlen.resolve_left (by simp [mjLen])) hp h hl k
  | dup => exact ma_dup hexec hb hd (hlen.resolve_left (by simp [mjLen])) hp h hl k
  | pop => exact ma_pop hexec hb hd (hlen.resolve_left (by simp [mjLen])) hp h hl k
  | dup2 => exact ma_dup2 hexec hb hd (hlen.resolve_left (by simp [mjLen])) hp h hl k
  | ifCond q z => exact ma_ifCond hexec hb hd (hlen.resolve_left (by simp [mjLen])) hp h hl k
  | if_icmp q z => exact ma_if_icmp hexec hb hd (hlen.resolve_left (by simp [mjLen])) hp h hl k
  | goto z => exact ma_goto hexec hb hd (hlen.resolve_left (by simp [mjLen])) hp h hl k
  | tableswitch d lo hi offs => exact ma_tableswitch hexec hb hd h hl k
  | lookupswitch d ps => exact ma_lookupswitch hexec hb hd h hl k
  | _ => simp [mjAlu] at h

end MJALU

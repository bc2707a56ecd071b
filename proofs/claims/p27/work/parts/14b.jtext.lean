/-! the JDK's String.length and String.charAt, of a text whose bytes are known -/
section JTEXT
/-- a text at a, its bytes at t -/
def jtT (a t : Nat) (bs : List Nat) (A : Nat → Prop) (U : State) (H : Heap) : Prop :=
  va_O RJ0 a A U H ∧ va_OF RJ0 "coder" "B" (.int 0) a A U H ∧ va_OF RJ0 "value" "[B" (.ref t) a A U H ∧ va_T .byte t bs.length (fun i => .int (Int32.ofNat (bs.getD i 0))) A U H ∧
  va_Z RJ0 "COMPACT_STRINGS" "Z" (.int 1) A U H ∧ va_Zq RJ3 "SIOOBE_FORMATTER" "Ljava/util/function/BiFunction;" A U H
theorem jtT.moved {a t : Nat} {bs : List Nat} {A : Nat → Prop} {u U : State} {H : Heap} (hvm : u.vm.Alike U.vm) (h : jtT a t bs A u H) : jtT a t bs A U H :=
  ⟨va_O.moved hvm h.1, va_OF.moved hvm h.2.1, va_OF.moved hvm h.2.2.1, va_T.moved hvm h.2.2.2.1, va_Z.moved hvm h.2.2.2.2.1, va_Zq.moved hvm h.2.2.2.2.2⟩
theorem jtT.kept {a t : Nat} {bs : List Nat} {A : Nat → Prop} {U : State} {H H1 : Heap} (h : jtT a t bs A U H) (hq : ∀ a : Nat, a < H.size → ¬ A a → H1[a]? = H[a]?) : jtT a t bs A U H1 :=
  ⟨h.1.kept hq, h.2.1.kept hq, h.2.2.1.kept hq, h.2.2.2.1.kept hq, h.2.2.2.2.1.kept hq, h.2.2.2.2.2.kept hq⟩
theorem jtT.narrow {a t : Nat} {bs : List Nat} {A B : Nat → Prop} {U : State} {H : Heap} (h : jtT a t bs A U H) (hAB : ∀ q, B q → A q) : jtT a t bs B U H :=
  ⟨h.1.narrow hAB, h.2.1.narrow hAB, h.2.2.1.narrow hAB, h.2.2.2.1.narrow hAB, h.2.2.2.2.1.narrow hAB, h.2.2.2.2.2.narrow hAB⟩
theorem jtT.to {a t : Nat} {bs : List Nat} {A B : Nat → Prop} {s U : State} {H : Heap} {locs : List Loc} (h : jtT a t bs A s s.heap) (hW : s.WarmedH U.vm) (hU : U.heap = H) (hS : va_S A s.heap H locs) (hAB : ∀ q, B q → A q) : jtT a t bs B U U.heap := by
  rw [hU]
  exact ((h.moved hW.alike).kept hS.2.1).narrow hAB
abbrev jtA (sz : Nat) : Nat → Prop := fun q => sz ≤ q
def jtB (a t : Nat) (bs : List Nat) (sz : Nat) (U : State) : Prop := U.heap.size = sz ∧ jtT a t bs (jtA sz) U U.heap
theorem jtB.blind {av : List Value} {a t : Nat} {bs : List Nat} {sz : Nat} : FrameBlind (va_Pc av (jtB a t bs sz)) := by
  rintro z U g mk ⟨h1, h2, h3⟩
  exact ⟨h1, h2, jtT.moved (u := U) (U := U.calling g mk z) (Vm.Alike.refl U.vm) h3⟩
abbrev jtQ (v : Int32) (sz : Nat) : Array Value → State → Outcome → State → Prop := va_Qi (fun (r : Int32) (_ : Unit) => r = v) (fun _ _ => True) (jtA sz)
abbrev jtV (sz : Nat) : Array Value → State → Outcome → State → Prop := va_Qv (fun (_ : Unit) => True) (fun _ _ => True) (jtA sz)
theorem jt_warm {args : Array Value} {s : State} {w0 : Cond} (hts : ∀ w ∈ mjGl, w.before args s = true) (h0 : w0 ∈ mjGl) : ∀ w ∈ w0 :: mjGl, ∀ (a' : Array Value) (U : State), s.WarmedH U.vm → w.before a' U = true := by
  intro w hw a' U hW
  have hwg : w ∈ mjGl := by
    rcases List.mem_cons.mp hw with rfl | h
    · exact h0
    · exact h
  exact word_at hW (good_of_word (mjGl_good hwg)) (hts w hwg)
theorem jt_np {d : String} {n : Nat} (h : (parseMethodDescriptor d).map (fun d => d.parameters.length) = some n) : ∀ sig, parseMethodDescriptor d = some sig → n = sig.parameters.length := by
  intro sig hs
  rw [hs] at h
  exact (Option.some.inj h).symm
theorem jt_lt {k n : Nat} (h : k < n) (hn : n < 2147483648) : (¬ Int32.ofNat k < 0) ∧ Int32.ofNat k < Int32.ofNat n ∧ vp_in (Int32.ofNat k) n ∧ (Int32.ofNat k).toNatClampNeg = k := by
  have e1 : (Int32.ofNat k).toInt = k := Int32.toInt_ofNat_of_lt (by omega)
  have e2 : (Int32.ofNat n).toInt = n := Int32.toInt_ofNat_of_lt (by omega)
  have h0 : ¬ Int32.ofNat k < 0 := fun q => by
    have := Int32.lt_iff_toInt_lt.mp q
    rw [e1] at this
    have z : (0 : Int32).toInt = 0 := rfl
    omega
  have hc : (Int32.ofNat k).toNatClampNeg = k := by
    show (Int32.ofNat k).toInt.toNat = k
    omega
  exact ⟨h0, Int32.lt_iff_toInt_lt.mpr (by omega), fun q => by
    rcases q with q | q
    · exact h0 q
    · rw [hc] at q
      omega, hc⟩
theorem jt_by : ∀ b : Nat, b < 128 → (((Int32.ofNat b &&& 255).toUInt32 % 65536).toInt32 = Int32.ofNat b) ∧ narrow .char (.int (Int32.ofNat b)) = .int (Int32.ofNat b) := by decide +kernel
theorem jt_sh (x : Int32) : x >>> ((0 : Int32) &&& 31) = x := by
  show x >>> (0 : Int32) = x
  exact Int32.shiftRight_zero
set_option maxHeartbeats 4000000 in
set_option maxRecDepth 100000 in
theorem jt_coder (l : Launch) (a t : Nat) (bs : List Nat) (sz : Nat) : Met l yJ0_coder_7d493 (Cond.code yJ0_coder_7d493 cJ0_coder_7d493 1 (some .byte) :: mjGl) { frames := 0, cells := 0, slots := 0, locals := 0 } (va_Pc [.ref a] (jtB a t bs sz)) (jtQ 0 sz) 0 0 (jtA sz) := by
  refine Met.ofW (cc := cJ0_coder_7d493) (maxL := 1) (ret := (some .byte)) (by decide) rfl ?_
  intro p e s m args below meth c s₁ B hml hv
  obtain ⟨rfl, hsz, hT⟩ := hv
  subst hsz
  have hx := B.exec
  have hb := B.bytes
  have hr := B.returns
  have hts0 := atoms_spec (ws := Cond.code yJ0_coder_7d493 cJ0_coder_7d493 1 (some .byte) :: mjGl) B.pre
  have hts : ∀ w ∈ mjGl, w.before _ s = true := fun w hw => hts0 w (List.mem_cons_of_mem _ hw)
  have hown : s.vm.findClass yJ0_coder_7d493.cls = some m.cls := findClass_of_methodNamed B.named
  have hlocks := B.notSynchronized
  have hS : va_S (jtA s.heap.size) s.heap s.heap [] := va_S.rf
  have hl := lv_entry ([.ref a]) (n := 1) (Nat.le_of_ble_eq_true rfl)
  rw [lg_entry_eq]
  generalize (lg_sl ([.ref a]) ++ List.replicate (1 - (lg_sl ([.ref a])).length) Slot.unset).toArray = ls at hl ⊢
  refine va_gets hx hb hT.2.2.2.2.1 hS hown (hts (.fieldLink RJ0 38 RJ0 "COMPACT_STRINGS" "Z") (by decide +kernel)) (fun _ h => h) (by decide +kernel) ?_
  refine lv_if_eq hx hb (off := 10) (tgt := 13) (by decide +kernel) rfl (fun h => absurd h (by decide)) (fun _ => ?_)
  refine lv_aload_n hx hb (k := 0) (i := 0) (by decide +kernel) rfl (lv_at hl 0 rfl) ?_
  refine vk_getf hx hb hT.2.1 hS hown (hts (.fieldLink RJ0 15 RJ0 "coder" "B") (by decide +kernel)) (fun _ h => h) (by decide +kernel) ?_
  refine lv_goto hx hb (off := 4) (tgt := 14) (by decide +kernel) rfl ?_
  exact W.zret hx hb hr (by decide) (fun t ht hW => ⟨⟨_, (), rfl, rfl, trivial⟩, hS.F ht⟩) hS.2.2 (by decide +kernel)
set_option maxHeartbeats 4000000 in
set_option maxRecDepth 100000 in
theorem jt_isLatin1 (l : Launch) (a t : Nat) (bs : List Nat) (sz : Nat) : Met l yJ0_isLatin1_aae02 (Cond.code yJ0_isLatin1_aae02 cJ0_isLatin1_aae02 1 (some .boolean) :: mjGl) { frames := 0, cells := 0, slots := 0, locals := 0 } (va_Pc [.ref a] (jtB a t bs sz)) (jtQ 1 sz) 0 0 (jtA sz) := by
  refine Met.ofW (cc := cJ0_isLatin1_aae02) (maxL := 1) (ret := (some .boolean)) (by decide) rfl ?_
  intro p e s m args below meth c s₁ B hml hv
  obtain ⟨rfl, hsz, hT⟩ := hv
  subst hsz
  have hx := B.exec
  have hb := B.bytes
  have hr := B.returns
  have hts0 := atoms_spec (ws := Cond.code yJ0_isLatin1_aae02 cJ0_isLatin1_aae02 1 (some .boolean) :: mjGl) B.pre
  have hts : ∀ w ∈ mjGl, w.before _ s = true := fun w hw => hts0 w (List.mem_cons_of_mem _ hw)
  have hown : s.vm.findClass yJ0_isLatin1_aae02.cls = some m.cls := findClass_of_methodNamed B.named
  have hlocks := B.notSynchronized
  have hS : va_S (jtA s.heap.size) s.heap s.heap [] := va_S.rf
  have hl := lv_entry ([.ref a]) (n := 1) (Nat.le_of_ble_eq_true rfl)
  rw [lg_entry_eq]
  generalize (lg_sl ([.ref a]) ++ List.replicate (1 - (lg_sl ([.ref a])).length) Slot.unset).toArray = ls at hl ⊢
  refine va_gets hx hb hT.2.2.2.2.1 hS hown (hts (.fieldLink RJ0 38 RJ0 "COMPACT_STRINGS" "Z") (by decide +kernel)) (fun _ h => h) (by decide +kernel) ?_
  refine lv_if_eq hx hb (off := 14) (tgt := 17) (by decide +kernel) rfl (fun h => absurd h (by decide)) (fun _ => ?_)
  refine lv_aload_n hx hb (k := 0) (i := 0) (by decide +kernel) rfl (lv_at hl 0 rfl) ?_
  refine vk_getf hx hb hT.2.1 hS hown (hts (.fieldLink RJ0 15 RJ0 "coder" "B") (by decide +kernel)) (fun _ h => h) (by decide +kernel) ?_
  refine lv_if_ne hx hb (off := 7) (tgt := 17) (by decide +kernel) rfl (fun h => absurd rfl h) (fun _ => ?_)
  refine lv_iconst hx hb (n := 1) (v := 1) (by decide +kernel) (by decide) ?_
  refine lv_goto hx hb (off := 4) (tgt := 18) (by decide +kernel) rfl ?_
  exact W.zret hx hb hr (by decide) (fun t ht hW => ⟨⟨_, (), rfl, rfl, trivial⟩, hS.F ht⟩) hS.2.2 (by decide +kernel)
set_option maxHeartbeats 4000000 in
set_option maxRecDepth 100000 in
theorem jt_length (l : Launch) (a t : Nat) (bs : List Nat) (sz : Nat) : Met l yJ0_length_8abf5 (Cond.code yJ0_length_8abf5 cJ0_length_8abf5 1 (some .int) :: mjGl) { frames := 1, cells := 0, slots := 0, locals := 20 } (va_Pc [.ref a] (jtB a t bs sz)) (jtQ (Int32.ofNat bs.length) sz) 0 0 (jtA sz) := by
  refine Met.ofW (cc := cJ0_length_8abf5) (maxL := 1) (ret := (some .int)) (by decide) rfl ?_
  intro p e s m args below meth c s₁ B hml hv
  obtain ⟨rfl, hsz, hT⟩ := hv
  subst hsz
  have hx := B.exec
  have hb := B.bytes
  have hr := B.returns
  have hts0 := atoms_spec (ws := Cond.code yJ0_length_8abf5 cJ0_length_8abf5 1 (some .int) :: mjGl) B.pre
  have hts : ∀ w ∈ mjGl, w.before _ s = true := fun w hw => hts0 w (List.mem_cons_of_mem _ hw)
  have hown : s.vm.findClass yJ0_length_8abf5.cls = some m.cls := findClass_of_methodNamed B.named
  have hlocks := B.notSynchronized
  have hS : va_S (jtA s.heap.size) s.heap s.heap [] := va_S.rf
  have hl := lv_entry ([.ref a]) (n := 1) (Nat.le_of_ble_eq_true rfl)
  rw [lg_entry_eq]
  generalize (lg_sl ([.ref a]) ++ List.replicate (1 - (lg_sl ([.ref a])).length) Slot.unset).toArray = ls at hl ⊢
  refine lv_aload_n hx hb (k := 0) (i := 0) (by decide +kernel) rfl (lv_at hl 0 rfl) ?_
  refine vk_getf hx hb hT.2.2.1 hS hown (hts (.fieldLink RJ0 9 RJ0 "value" "[B") (by decide +kernel)) (fun _ h => h) (by decide +kernel) ?_
  refine va_tlen hx hb hT.2.2.2.1 hS (v := Int32.ofNat bs.length) rfl (by decide +kernel) ?_
  refine lv_aload_n hx hb (k := 0) (i := 0) (by decide +kernel) rfl (lv_at hl 0 rfl) ?_
  refine va_calli (va_runV (As := []) (rest := [.int (Int32.ofNat bs.length)]) (C := RJ0) ⟨hx, hb, hml, hown, hts⟩ (jt_coder l a t bs s.heap.size) (n := 0) ⟨⟨rfl, rfl, by decide, by decide, jt_warm hts (show Cond.code yJ0_coder_7d493 cJ0_coder_7d493 1 (some .byte) ∈ mjGl by decide +kernel), List.mem_cons_self, hts _ (by decide +kernel), hts _ (by decide +kernel), ⟨by decide, by decide⟩, jt_np (by decide +kernel), hts (.methodLink RJ0 335 yJ0_coder_7d493) (by decide +kernel)⟩, hts _ (by decide +kernel), hts _ (by decide +kernel)⟩ ⟨jtB.blind, (by
      obtain ⟨cell, q1, q2, q3, -⟩ := hT.1.kept hS.2.1
      exact ⟨cell, q1, q2, q3⟩), fun U hU hW => ⟨rfl, by rw [hU], hT.to hW hU hS (fun q h => Nat.le_trans hS.1 h)⟩⟩ rfl rfl hl.1 rfl (lv_room (Nat.le_of_ble_eq_true rfl)) (show decode cJ0_length_8abf5 6 = .ok (.invokevirtual 335, 3) by decide +kernel) ⟨Nat.le_refl _, Nat.le_refl _⟩) hS (fun q _ h => Nat.le_trans hS.1 h) (fun q h => Nat.le_trans hS.1 h) (fun r u t1 H1 locs1 ht hvm hw hB hz1 hk1 hS => ?_)
  subst hw
  refine lv_ishr hx hb (by decide +kernel) ?_
  rw [jt_sh]
  exact W.zret hx hb hr rfl (fun t ht hW => ⟨⟨_, (), rfl, rfl, trivial⟩, hS.F ht⟩) hS.2.2 (by decide +kernel)
set_option maxHeartbeats 4000000 in
set_option maxRecDepth 100000 in
theorem jt_pre (l : Launch) (k n : Nat) (hk : k < n) (hn : n < 2147483648) (v : Value) (hv1 : v = .null ∨ ∃ q, v = .ref q) (sz : Nat) : Met l yJ3_checkIndex_8e157 (Cond.code yJ3_checkIndex_8e157 cJ3_checkIndex_8e157 3 (some .int) :: mjGl) { frames := 0, cells := 0, slots := 0, locals := 0 } (va_Pc [.int (Int32.ofNat k), .int (Int32.ofNat n), v] (fun U => U.heap.size = sz)) (jtQ (Int32.ofNat k) sz) 0 0 (jtA sz) := by
  refine Met.ofW (cc := cJ3_checkIndex_8e157) (maxL := 3) (ret := (some .int)) (by decide) rfl ?_
  intro p e s m args below meth c s₁ B hml hv
  obtain ⟨rfl, hsz⟩ := hv
  subst hsz
  have hx := B.exec
  have hb := B.bytes
  have hr := B.returns
  have hts0 := atoms_spec (ws := Cond.code yJ3_checkIndex_8e157 cJ3_checkIndex_8e157 3 (some .int) :: mjGl) B.pre
  have hts : ∀ w ∈ mjGl, w.before _ s = true := fun w hw => hts0 w (List.mem_cons_of_mem _ hw)
  have hown : s.vm.findClass yJ3_checkIndex_8e157.cls = some m.cls := findClass_of_methodNamed B.named
  have hlocks := B.notSynchronized
  have hS : va_S (jtA s.heap.size) s.heap s.heap [] := va_S.rf
  have hl := lv_entry ([.int (Int32.ofNat k), .int (Int32.ofNat n), v]) (n := 3) (by rcases hv1 with rfl | ⟨q, rfl⟩ <;> exact Nat.le_of_ble_eq_true rfl)
  rw [lg_entry_eq]
  generalize (lg_sl ([.int (Int32.ofNat k), .int (Int32.ofNat n), v]) ++ List.replicate (3 - (lg_sl ([.int (Int32.ofNat k), .int (Int32.ofNat n), v])).length) Slot.unset).toArray = ls at hl ⊢
  obtain ⟨g0, g1, -, -⟩ := jt_lt hk hn
  have hl0 : ls[0]? = some (.val (.int (Int32.ofNat k))) := lv_at hl 0 (by rcases hv1 with rfl | ⟨q, rfl⟩ <;> rfl)
  have hl1 : ls[1]? = some (.val (.int (Int32.ofNat n))) := lv_at hl 1 (by rcases hv1 with rfl | ⟨q, rfl⟩ <;> rfl)
  refine lv_iload_n hx hb (k := 0) (i := 0) (by decide +kernel) rfl hl0 ?_
  refine lv_if_lt hx hb (off := 8) (tgt := 9) (by decide +kernel) rfl (fun h => absurd h g0) (fun _ => ?_)
  refine lv_iload_n hx hb (k := 0) (i := 0) (by decide +kernel) rfl hl0 ?_
  refine lv_iload_n hx hb (k := 1) (i := 1) (by decide +kernel) rfl hl1 ?_
  refine lv_icmp_lt hx hb (off := 10) (tgt := 16) (by decide +kernel) rfl (fun _ => ?_) (fun h => absurd g1 h)
  refine lv_iload_n hx hb (k := 0) (i := 0) (by decide +kernel) rfl hl0 ?_
  exact W.zret hx hb hr rfl (fun t ht hW => ⟨⟨_, (), rfl, rfl, trivial⟩, hS.F ht⟩) hS.2.2 (by decide +kernel)
set_option maxHeartbeats 4000000 in
set_option maxRecDepth 100000 in
theorem jt_ci (l : Launch) (k n : Nat) (hk : k < n) (hn : n < 2147483648) (sz : Nat) : Met l yJ0_checkIndex_df160 (Cond.code yJ0_checkIndex_df160 cJ0_checkIndex_df160 2 none :: mjGl) { frames := 1, cells := 0, slots := 0, locals := 22 } (va_Pc [.int (Int32.ofNat k), .int (Int32.ofNat n)] (fun U => U.heap.size = sz ∧ va_Zq RJ3 "SIOOBE_FORMATTER" "Ljava/util/function/BiFunction;" (jtA sz) U U.heap)) (jtV sz) 0 0 (jtA sz) := by
  refine Met.ofW (cc := cJ0_checkIndex_df160) (maxL := 2) (ret := none) (by decide) rfl ?_
  intro p e s m args below meth c s₁ B hml hv
  obtain ⟨rfl, hsz, hZ⟩ := hv
  subst hsz
  have hx := B.exec
  have hb := B.bytes
  have hr := B.returns
  have hts0 := atoms_spec (ws := Cond.code yJ0_checkIndex_df160 cJ0_checkIndex_df160 2 none :: mjGl) B.pre
  have hts : ∀ w ∈ mjGl, w.before _ s = true := fun w hw => hts0 w (List.mem_cons_of_mem _ hw)
  have hown : s.vm.findClass yJ0_checkIndex_df160.cls = some m.cls := findClass_of_methodNamed B.named
  have hlocks := B.notSynchronized
  have hS : va_S (jtA s.heap.size) s.heap s.heap [] := va_S.rf
  have hl := lv_entry ([.int (Int32.ofNat k), .int (Int32.ofNat n)]) (n := 2) (Nat.le_of_ble_eq_true rfl)
  rw [lg_entry_eq]
  generalize (lg_sl ([.int (Int32.ofNat k), .int (Int32.ofNat n)]) ++ List.replicate (2 - (lg_sl ([.int (Int32.ofNat k), .int (Int32.ofNat n)])).length) Slot.unset).toArray = ls at hl ⊢
  have key : ∀ v : Value, (v = .null ∨ ∃ q, v = .ref q) → va_Z RJ3 "SIOOBE_FORMATTER" "Ljava/util/function/BiFunction;" v (jtA s.heap.size) s s.heap → W p l e (headSpec (Cond.code yJ0_checkIndex_df160 cJ0_checkIndex_df160 2 none :: mjGl) { frames := 1, cells := 0, slots := 0, locals := 22 }).room s m #[.int (Int32.ofNat k), .int (Int32.ofNat n)] below meth c s.heap [] 0 0 (MQ below (jtV s.heap.size) #[.int (Int32.ofNat k), .int (Int32.ofNat n)] s 0 0 (jtA s.heap.size)) (F0 m 0 ls []) := by
    intro v hv1 hZ
    refine lv_iload_n hx hb (k := 0) (i := 0) (by decide +kernel) rfl (lv_at hl 0 rfl) ?_
    refine lv_iload_n hx hb (k := 1) (i := 1) (by decide +kernel) rfl (lv_at hl 1 rfl) ?_
    refine va_gets hx hb hZ hS hown (hts (.fieldLink RJ0 1053 RJ3 "SIOOBE_FORMATTER" "Ljava/util/function/BiFunction;") (by decide +kernel)) (fun _ h => h) (by decide +kernel) ?_
    refine va_calli (va_runS (As := [.int (Int32.ofNat k), .int (Int32.ofNat n), v]) (rest := []) ⟨hx, hb, hml, hown, hts⟩ (jt_pre l k n hk hn v hv1 s.heap.size) (n := 3) ⟨⟨rfl, rfl, by decide, by decide, jt_warm hts (show Cond.code yJ3_checkIndex_8e157 cJ3_checkIndex_8e157 3 (some .int) ∈ mjGl by decide +kernel), List.mem_cons_self, hts _ (by decide +kernel), hts _ (by decide +kernel), ⟨by decide, by decide⟩, jt_np (by decide +kernel), hts (.methodLink RJ0 1059 yJ3_checkIndex_8e157) (by decide +kernel)⟩, hts _ (by decide +kernel)⟩ ⟨(fun z U g mk ⟨h1, h2⟩ => ⟨h1, h2⟩), fun U hU hW => ⟨rfl, congrArg Array.size hU⟩⟩ rfl rfl hl.1 rfl (lv_room (Nat.le_of_ble_eq_true rfl)) (show decode cJ0_checkIndex_df160 5 = .ok (.invokestatic 1059, 3) by decide +kernel) ⟨Nat.le_refl _, Nat.le_refl _⟩) hS (fun q _ h => Nat.le_trans hS.1 h) (fun q h => Nat.le_trans hS.1 h) (fun r u t1 H1 locs1 ht hvm hw hB hz1 hk1 hS => ?_)
    refine lv_pop hx hb (by decide +kernel) rfl ?_
    exact W.vret hx hb hr (fun t ht hW => ⟨⟨(), rfl, trivial, trivial⟩, hS.F ht⟩) hS.2.2 (by decide +kernel)
  rcases hZ with h | ⟨q, h⟩
  · exact key _ (Or.inl rfl) h
  · exact key _ (Or.inr ⟨q, rfl⟩) h
set_option maxHeartbeats 4000000 in
set_option maxRecDepth 100000 in
theorem jt_l1 (l : Launch) (a t : Nat) (bs : List Nat) (sz : Nat) (k : Nat) (hk : k < bs.length) (hn : bs.length < 2147483648) (hby : bs.getD k 0 < 128) : Met l yJ1_charAt_3b067 (Cond.code yJ1_charAt_3b067 cJ1_charAt_3b067 2 (some .char) :: mjGl) { frames := 2, cells := 0, slots := 0, locals := 43 } (va_Pc [.ref t, .int (Int32.ofNat k)] (jtB a t bs sz)) (jtQ (Int32.ofNat (bs.getD k 0)) sz) 0 0 (jtA sz) := by
  refine Met.ofW (cc := cJ1_charAt_3b067) (maxL := 2) (ret := (some .char)) (by decide) rfl ?_
  intro p e s m args below meth c s₁ B hml hv
  obtain ⟨rfl, hsz, hT⟩ := hv
  subst hsz
  have hx := B.exec
  have hb := B.bytes
  have hr := B.returns
  have hts0 := atoms_spec (ws := Cond.code yJ1_charAt_3b067 cJ1_charAt_3b067 2 (some .char) :: mjGl) B.pre
  have hts : ∀ w ∈ mjGl, w.before _ s = true := fun w hw => hts0 w (List.mem_cons_of_mem _ hw)
  have hown : s.vm.findClass yJ1_charAt_3b067.cls = some m.cls := findClass_of_methodNamed B.named
  have hlocks := B.notSynchronized
  have hS : va_S (jtA s.heap.size) s.heap s.heap [] := va_S.rf
  have hl := lv_entry ([.ref t, .int (Int32.ofNat k)]) (n := 2) (Nat.le_of_ble_eq_true rfl)
  rw [lg_entry_eq]
  generalize (lg_sl ([.ref t, .int (Int32.ofNat k)]) ++ List.replicate (2 - (lg_sl ([.ref t, .int (Int32.ofNat k)])).length) Slot.unset).toArray = ls at hl ⊢
  obtain ⟨-, -, g2, g3⟩ := jt_lt hk hn
  refine lv_iload_n hx hb (k := 1) (i := 1) (by decide +kernel) rfl (lv_at hl 1 rfl) ?_
  refine lv_aload_n hx hb (k := 0) (i := 0) (by decide +kernel) rfl (lv_at hl 0 rfl) ?_
  refine va_tlen hx hb hT.2.2.2.1 hS (v := Int32.ofNat bs.length) rfl (by decide +kernel) ?_
  refine va_callv (va_runS (As := [.int (Int32.ofNat k), .int (Int32.ofNat bs.length)]) (rest := []) ⟨hx, hb, hml, hown, hts⟩ (jt_ci l k bs.length hk hn s.heap.size) (n := 2) ⟨⟨rfl, rfl, by decide, by decide, jt_warm hts (show Cond.code yJ0_checkIndex_df160 cJ0_checkIndex_df160 2 none ∈ mjGl by decide +kernel), List.mem_cons_self, hts _ (by decide +kernel), hts _ (by decide +kernel), ⟨by decide, by decide⟩, jt_np (by decide +kernel), hts (.methodLink RJ1 9 yJ0_checkIndex_df160) (by decide +kernel)⟩, hts _ (by decide +kernel)⟩ ⟨(fun z U g mk ⟨h1, h2, h3⟩ => ⟨h1, h2, va_Zq.moved (u := U) (U := U.calling g mk z) (Vm.Alike.refl U.vm) h3⟩), fun U hU hW => ⟨rfl, by rw [hU], (hT.to hW hU hS (fun q h => h)).2.2.2.2.2⟩⟩ rfl rfl hl.1 rfl (lv_room (Nat.le_of_ble_eq_true rfl)) (show decode cJ1_charAt_3b067 3 = .ok (.invokestatic 9, 3) by decide +kernel) ⟨Nat.le_refl _, Nat.le_refl _⟩) hS (fun q _ h => Nat.le_trans hS.1 h) (fun q h => Nat.le_trans hS.1 h) (fun u t1 H1 locs1 ht hvm hw hB hz1 hk1 hS => ?_)
  refine lv_aload_n hx hb (k := 0) (i := 0) (by decide +kernel) rfl (lv_at hl 0 rfl) ?_
  refine lv_iload_n hx hb (k := 1) (i := 1) (by decide +kernel) rfl (lv_at hl 1 rfl) ?_
  refine va_tb hx hb hT.2.2.2.1 hS g2 (v := .int (Int32.ofNat (bs.getD k 0))) (by rw [g3]) (by decide +kernel) ?_
  refine lv_sipush hx hb (n := 255) (v := 255) (by decide +kernel) (by decide) ?_
  refine lv_iand hx hb (by decide +kernel) ?_
  refine lv_i2c hx hb (v := Int32.ofNat (bs.getD k 0)) (by decide +kernel) (jt_by _ hby).1 ?_
  exact W.zret hx hb hr (jt_by _ hby).2 (fun t ht hW => ⟨⟨_, (), rfl, rfl, trivial⟩, hS.F ht⟩) hS.2.2 (by decide +kernel)
set_option maxHeartbeats 4000000 in
set_option maxRecDepth 100000 in
theorem jt_charAt (l : Launch) (a t : Nat) (bs : List Nat) (sz : Nat) (k : Nat) (hk : k < bs.length) (hn : bs.length < 2147483648) (hby : bs.getD k 0 < 128) : Met l yJ0_charAt_5068e (Cond.code yJ0_charAt_5068e cJ0_charAt_5068e 2 (some .char) :: mjGl) { frames := 3, cells := 0, slots := 0, locals := 64 } (va_Pc [.ref a, .int (Int32.ofNat k)] (jtB a t bs sz)) (jtQ (Int32.ofNat (bs.getD k 0)) sz) 0 0 (jtA sz) := by
  refine Met.ofW (cc := cJ0_charAt_5068e) (maxL := 2) (ret := (some .char)) (by decide) rfl ?_
  intro p e s m args below meth c s₁ B hml hv
  obtain ⟨rfl, hsz, hT⟩ := hv
  subst hsz
  have hx := B.exec
  have hb := B.bytes
  have hr := B.returns
  have hts0 := atoms_spec (ws := Cond.code yJ0_charAt_5068e cJ0_charAt_5068e 2 (some .char) :: mjGl) B.pre
  have hts : ∀ w ∈ mjGl, w.before _ s = true := fun w hw => hts0 w (List.mem_cons_of_mem _ hw)
  have hown : s.vm.findClass yJ0_charAt_5068e.cls = some m.cls := findClass_of_methodNamed B.named
  have hlocks := B.notSynchronized
  have hS : va_S (jtA s.heap.size) s.heap s.heap [] := va_S.rf
  have hl := lv_entry ([.ref a, .int (Int32.ofNat k)]) (n := 2) (Nat.le_of_ble_eq_true rfl)
  rw [lg_entry_eq]
  generalize (lg_sl ([.ref a, .int (Int32.ofNat k)]) ++ List.replicate (2 - (lg_sl ([.ref a, .int (Int32.ofNat k)])).length) Slot.unset).toArray = ls at hl ⊢
  refine lv_aload_n hx hb (k := 0) (i := 0) (by decide +kernel) rfl (lv_at hl 0 rfl) ?_
  refine va_calli (va_runV (As := []) (rest := []) (C := RJ0) ⟨hx, hb, hml, hown, hts⟩ (jt_isLatin1 l a t bs s.heap.size) (n := 0) ⟨⟨rfl, rfl, by decide, by decide, jt_warm hts (show Cond.code yJ0_isLatin1_aae02 cJ0_isLatin1_aae02 1 (some .boolean) ∈ mjGl by decide +kernel), List.mem_cons_self, hts _ (by decide +kernel), hts _ (by decide +kernel), ⟨by decide, by decide⟩, jt_np (by decide +kernel), hts (.methodLink RJ0 492 yJ0_isLatin1_aae02) (by decide +kernel)⟩, hts _ (by decide +kernel), hts _ (by decide +kernel)⟩ ⟨jtB.blind, (by
      obtain ⟨cell, q1, q2, q3, -⟩ := hT.1.kept hS.2.1
      exact ⟨cell, q1, q2, q3⟩), fun U hU hW => ⟨rfl, by rw [hU], hT.to hW hU hS (fun q h => Nat.le_trans hS.1 h)⟩⟩ rfl rfl hl.1 rfl (lv_room (Nat.le_of_ble_eq_true rfl)) (show decode cJ0_charAt_5068e 1 = .ok (.invokevirtual 492, 3) by decide +kernel) ⟨Nat.le_refl _, Nat.le_refl _⟩) hS (fun q _ h => Nat.le_trans hS.1 h) (fun q h => Nat.le_trans hS.1 h) (fun r u t1 H1 locs1 ht hvm hw hB hz1 hk1 hS => ?_)
  subst hw
  refine lv_if_eq hx hb (off := 12) (tgt := 16) (by decide +kernel) rfl (fun h => absurd h (by decide)) (fun _ => ?_)
  refine lv_aload_n hx hb (k := 0) (i := 0) (by decide +kernel) rfl (lv_at hl 0 rfl) ?_
  refine vk_getf hx hb hT.2.2.1 hS hown (hts (.fieldLink RJ0 9 RJ0 "value" "[B") (by decide +kernel)) (fun _ h => h) (by decide +kernel) ?_
  refine lv_iload_n hx hb (k := 1) (i := 1) (by decide +kernel) rfl (lv_at hl 1 rfl) ?_
  refine va_calli (va_runS (As := [.ref t, .int (Int32.ofNat k)]) (rest := []) ⟨hx, hb, hml, hown, hts⟩ (jt_l1 l a t bs H1.size k hk hn hby) (n := 2) ⟨⟨rfl, rfl, by decide, by decide, jt_warm hts (show Cond.code yJ1_charAt_3b067 cJ1_charAt_3b067 2 (some .char) ∈ mjGl by decide +kernel), List.mem_cons_self, hts _ (by decide +kernel), hts _ (by decide +kernel), ⟨by decide, by decide⟩, jt_np (by decide +kernel), hts (.methodLink RJ0 495 yJ1_charAt_3b067) (by decide +kernel)⟩, hts _ (by decide +kernel)⟩ ⟨jtB.blind, fun U hU hW => ⟨rfl, by rw [hU], hT.to hW hU hS (fun q h => Nat.le_trans hS.1 h)⟩⟩ rfl rfl hl.1 rfl (lv_room (Nat.le_of_ble_eq_true rfl)) (show decode cJ0_charAt_5068e 12 = .ok (.invokestatic 495, 3) by decide +kernel) ⟨Nat.le_refl _, Nat.le_refl _⟩) hS (fun q _ h => Nat.le_trans hS.1 h) (fun q h => Nat.le_trans hS.1 h) (fun r u t1 H1 locs1 ht hvm hw hB hz1 hk1 hS => ?_)
  subst hw
  exact W.zret hx hb hr (jt_by _ hby).2 (fun t ht hW => ⟨⟨_, (), rfl, rfl, trivial⟩, hS.F ht⟩) hS.2.2 (by decide +kernel)
end JTEXT

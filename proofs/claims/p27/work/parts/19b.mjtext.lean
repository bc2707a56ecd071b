/-! MJ: lengths and letters of texts -/
section MJTEXT
/-- where a call of String.length or charAt stands, its word stands too -/
noncomputable def mjTxX (own : String) (x : mjX) : Bool := match x.1 with
  | .invokevirtual i => if x.2.2.1 = 900 then mjIs x.2.2.2.2 (.methodLink own i yJ0_length_8abf5) else if x.2.2.1 = 901 then mjIs x.2.2.2.2 (.methodLink own i yJ0_charAt_5068e) else true
  | _ => true
noncomputable def mjTxK (k : Nat) : Bool := match mjM k with
  | some (_, _, _, own, _, _, _) => (mjTb k).all (fun l => l.all (fun q => mjTxX own q.2))
  | none => true
set_option maxRecDepth 1000000 in
theorem mjTxK_ok : (List.range 374).all mjTxK = true := by decide +kernel
set_option maxRecDepth 1000000 in
theorem mjTxt_ok : mjTxt.all (fun l => l.all (fun bs => Nat.blt bs.length 100000 && bs.all (fun b => Nat.blt b 128))) = true := by decide +kernel
theorem mjTxo_ok {o : Nat} {bs : List Nat} (h : mjTxo o = some bs) : bs.length < 2147483648 ∧ ∀ b ∈ bs, b < 128 := by
  unfold mjTxo at h
  split at h
  · split at h
    · rename_i l hl
      have h1 := List.all_eq_true.mp (List.all_eq_true.mp mjTxt_ok l (List.mem_of_getElem? hl)) bs (List.mem_of_getElem? h)
      rw [Bool.and_eq_true] at h1
      have h2 : bs.length < 100000 := Nat.ble_eq.mp h1.1
      exact ⟨by omega, fun b hb => Nat.ble_eq.mp (List.all_eq_true.mp h1.2 b hb)⟩
    · cases h
  · cases h
theorem mjR.lt {D : va_G} {dT : Nat → ClassId} {ad : Nat → Nat} {A : Nat → Prop} {hp : mjH} {H : Heap} (h : mjR D dT ad A hp H) {i : Nat} (hi : i < hp.length) : ad i < H.size := by
  obtain ⟨e, he⟩ : ∃ e, hp[i]? = some e := ⟨hp[i], List.getElem?_eq_getElem hi⟩
  rcases Nat.lt_or_ge e.1 100 with hq | hq
  · obtain ⟨r, -, -, cell, q1, -⟩ := (h.1 i e he).1 hq
    exact (Array.getElem?_eq_some_iff.mp q1).1
  · exact (Array.getElem?_eq_some_iff.mp ((h.1 i e he).2 hq)).1
theorem jt_ofNat {i : Int32} (h : ¬ i < 0) (hn : i.toNatClampNeg < 2147483648) : i = Int32.ofNat i.toNatClampNeg := by
  have e1 : (Int32.ofNat i.toNatClampNeg).toInt = i.toNatClampNeg := Int32.toInt_ofNat_of_lt (by omega)
  refine Int32.toInt_inj.mp ?_
  rw [e1]
  have h0 : ¬ i.toInt < 0 := fun q => h (Int32.lt_iff_toInt_lt.mpr q)
  show i.toInt = (i.toInt.toNat : Int)
  omega
variable {l : Launch} {D : va_G} {dT : Nat → ClassId} {rec : mjRec} {scr : Option (List Int32)} {d k pc : Nat} {ls : mjL} {st : List Value} {hp hp' : mjH} {o : Option Value ⊕ Nat} {dc ds : Nat} {y : MethodName} {nL : Nat} {ret : Option FieldType} {own : String} {hh : List (Nat × Nat × Nat × Nat)} {np : Nat} {stt : Bool} {as : List Value}
variable {p : Program} {e : Env} {R : Room} {s : State} {m : MethodId} {args : Array Value} {below : List Frame} {meth : Method} {c : Code} {Q : State → Prop} {mc ms : Nat} {A : Nat → Prop} {ad : Nat → Nat} {cells slots : Nat} {H : Heap} {locs : List Loc} {arr : Array Slot} {x : mjX}
set_option maxHeartbeats 4000000 in
set_option maxRecDepth 100000 in
theorem mj_text (IH : mjGo l D dT rec) (hx : mjAtI k pc = some x) (hi : ∃ i, x.1 = .invokevirtual i) (h0 : x.2.2.1 = 900 ∨ x.2.2.1 = 901) (hM : mjM k = some (y, nL, ret, own, hh, np, stt)) (hk : k ≤ mjLaw)
    (hrun : mjText rec scr d k pc x ls st hp = some (o, hp', dc, ds))
    (hC : mjCx k d y nL ret own hh p R s m args meth c mc ms A) (hc : cells + dc = mc) (hs : slots + ds = ms) (hR : mjR D dT ad A hp H) (hS : va_S A s.heap H locs) (hKX : mjKX D dT ad A s) (hSX : mjSX scr ad A s) (hl : lv_has arr nL (rll ad ls))
    (hK3 : mjK3 l D dT k nL ret own hh p e R s m args below meth c Q mc ms A o hp' hp.length ad) : W p l e R s m args below meth c H locs cells slots Q (F0 m pc arr (rls ad st)) := by
  obtain ⟨i, hi⟩ := hi
  obtain ⟨hd, hlen, hpre, hlk, hlk2, hnL⟩ := mj_row hx hM hk
  have hC' := hC
  obtain ⟨hexec, hb, hret, hlocks, hml, hown, hini, hts, htab, hroom, hmc, hms, hA⟩ := hC'
  have hlw : mjTxX own x = true := by
    have h1 := List.all_eq_true.mp mjTxK_ok k (List.mem_range.mpr (Nat.lt_succ_of_le hk))
    unfold mjTxK at h1
    rw [hM] at h1
    obtain ⟨lq, hlq, hq⟩ := mjAtI_mem hx
    exact List.all_eq_true.mp (List.all_eq_true.mp h1 lq hlq) (pc, x) hq
  unfold mjTxX at hlw
  rw [hi] at hlw hd hlen
  rw [hlen.resolve_left (by simp [mjLen])] at hd
  dsimp only at hlw
  have hRk : ∀ (H1 : Heap), (∀ q : Nat, q < H.size → ¬ jtA H.size q → H1[q]? = H[q]?) → mjR D dT ad A hp H1 := fun H1 hk1 => hR.kept (fun i hi => hk1 (ad i) (mjR.lt hR hi) (fun h => absurd (mjR.lt hR hi) (Nat.not_lt.mpr h)))
  have hAf : ∀ q, jtA H.size q → A q := fun q h => hA q (Nat.le_trans hS.1 h)
  unfold mjText at hrun
  split at hrun
  · rename_i h900
    rw [if_pos h900] at hlw
    split at hrun
    · rename_i ob r
      split at hrun
      · rename_i bs hbs
        split at hrun
        · rename_i hcat
          obtain ⟨t, hT⟩ := hKX.2.2.2.2.2.2.2.2 ob bs hbs
          refine va_calli (va_runV (As := []) (rest := rls ad r) (C := RJ0) ⟨hexec, hb, hml, hown, hts⟩ (jt_length l (ad ob) t bs H.size) (n := 0) ⟨⟨rfl, rfl, by have := hroom.1; show 1 + 1 ≤ R.frames; omega, by have := hroom.2; dsimp only; omega, jt_warm hts (show Cond.code yJ0_length_8abf5 cJ0_length_8abf5 1 (some .int) ∈ mjGl by decide +kernel), List.mem_cons_self, hts _ (by decide +kernel), hts _ (by decide +kernel), ⟨by decide, by decide⟩, jt_np (by decide +kernel), hts _ (mjIs_in hlw)⟩, hts _ (by decide +kernel), hts _ (by decide +kernel)⟩ ⟨jtB.blind, (by
            obtain ⟨cell, q1, q2, q3, -⟩ := hT.1.kept hS.2.1
            exact ⟨cell, q1, q2, q3⟩), fun U hU hW => ⟨rfl, congrArg Array.size hU, hT.to hW hU hS hAf⟩⟩ rfl rfl hl.1 rfl (by rw [cat_map]; show 2 * 0 + _ ≤ 8; omega) hd ⟨by omega, by omega⟩) hS (fun q _ h => hAf q h) hAf (fun r1 u t1 H1 locs1 ht hvm hw hB hz1 hk1 hS1 => ?_)
          subst hw
          exact IH scr d k (pc + 3) ls _ hp o hp' dc ds hrun y nL ret own hh np stt hM hk p e R s m args below meth c Q mc ms A hC ad _ _ H1 locs1 arr hc hs (hRk H1 hk1) hS1 hKX hSX hl hK3
        · cases hrun
      · cases hrun
    · cases hrun
  · rename_i h900
    have h901 := h0.resolve_left h900
    rw [if_neg h900, if_pos h901] at hlw
    split at hrun
    · rename_i ix ob r
      split at hrun
      · rename_i bs hbs
        split at hrun
        · rename_i hcat
          split at hrun
          · rename_i cx hcx
            obtain ⟨t, hT⟩ := hKX.2.2.2.2.2.2.2.2 ob bs hbs
            obtain ⟨hn, hby⟩ := mjTxo_ok hbs
            have hkl : ix.toNatClampNeg < bs.length := (List.getElem?_eq_some_iff.mp hcx).1
            have hcd : bs.getD ix.toNatClampNeg 0 = cx := by rw [List.getD_eq_getElem?_getD, hcx]; rfl
            have e0 : Value.int ix = .int (Int32.ofNat ix.toNatClampNeg) := congrArg Value.int (jt_ofNat hcat.1 (by omega))
            refine va_calli (va_runV (As := [.int (Int32.ofNat ix.toNatClampNeg)]) (rest := rls ad r) (C := RJ0) ⟨hexec, hb, hml, hown, hts⟩ (jt_charAt l (ad ob) t bs H.size ix.toNatClampNeg hkl hn (by rw [hcd]; exact hby cx (List.mem_of_getElem? hcx))) (n := 1) ⟨⟨rfl, rfl, by have := hroom.1; show 3 + 1 ≤ R.frames; omega, by have := hroom.2; dsimp only; omega, jt_warm hts (show Cond.code yJ0_charAt_5068e cJ0_charAt_5068e 2 (some .char) ∈ mjGl by decide +kernel), List.mem_cons_self, hts _ (by decide +kernel), hts _ (by decide +kernel), ⟨by decide, by decide⟩, jt_np (by decide +kernel), hts _ (mjIs_in hlw)⟩, hts _ (by decide +kernel), hts _ (by decide +kernel)⟩ ⟨jtB.blind, (by
              obtain ⟨cell, q1, q2, q3, -⟩ := hT.1.kept hS.2.1
              exact ⟨cell, q1, q2, q3⟩), fun U hU hW => ⟨rfl, congrArg Array.size hU, hT.to hW hU hS hAf⟩⟩ rfl rfl hl.1 (by rw [← e0]; rfl) (by rw [cat_map]; show 2 * 0 + _ ≤ 8; omega) hd ⟨by omega, by omega⟩) hS (fun q _ h => hAf q h) hAf (fun r1 u t1 H1 locs1 ht hvm hw hB hz1 hk1 hS1 => ?_)
            subst hw
            rw [hcd]
            exact IH scr d k (pc + 3) ls _ hp o hp' dc ds hrun y nL ret own hh np stt hM hk p e R s m args below meth c Q mc ms A hC ad _ _ H1 locs1 arr hc hs (hRk H1 hk1) hS1 hKX hSX hl hK3
          · cases hrun
        · cases hrun
      · cases hrun
    · cases hrun
end MJTEXT

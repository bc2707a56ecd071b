/-! MJ: a step of the run -/
section MJSTEP
theorem mj_tb {k : Nat} (hk : k ≤ mjLaw) : mjTB k = true := by
  rcases Nat.lt_or_ge k mjLaw with h | h
  · exact mjTB_ok h
  · rw [Nat.le_antisymm hk h]
    exact ck_law
theorem mj_row {k pc : Nat} {x : mjX} {y : MethodName} {nL : Nat} {ret : Option FieldType} {own : String} {hh : List (Nat × Nat × Nat × Nat)} {np : Nat} {stt : Bool} (hx : mjAtI k pc = some x) (hM : mjM k = some (y, nL, ret, own, hh, np, stt)) (hk : k ≤ mjLaw) :
    decode (mjCd k) pc = .ok (x.1, x.2.1) ∧ (mjLen x.1 = 0 ∨ x.2.1 = mjLen x.1) ∧ mjPre x.1 pc x.2.2.2.1 nL = true ∧ mjLk own (y.name == "<init>") x = true ∧ mjLk2 own x = true ∧ nL ≤ 21 := by
  have h := mj_tb hk
  unfold mjTB at h
  rw [hM] at h
  simp only [Bool.and_eq_true, decide_eq_true_eq, List.all_eq_true] at h
  obtain ⟨⟨h1, h2⟩, h3⟩ := h
  obtain ⟨l, hl, hq⟩ := mjAtI_mem hx
  have hd := mjWalk_ok (code := mjCd k) (mjTb k).flatten 0 (by rw [List.drop_zero]; exact h1) (pc, x) (List.mem_flatten.mpr ⟨l, hl, hq⟩)
  have hb := h2 l hl (pc, x) hq
  unfold mjXB at hb
  simp only [Bool.and_eq_true, Bool.or_eq_true, decide_eq_true_eq] at hb
  exact ⟨hd, hb.1.1.1, hb.1.1.2, hb.1.2, hb.2, h3⟩
variable {l : Launch} {D : va_G} {dT : Nat → ClassId} {rec : mjRec} {scr : Option (List Int32)} {d k pc : Nat} {ls : mjL} {st : List Value} {hp hp' : mjH} {o : Option Value ⊕ Nat} {dc ds : Nat} {y : MethodName} {nL : Nat} {ret : Option FieldType} {own : String} {hh : List (Nat × Nat × Nat × Nat)} {np : Nat} {stt : Bool}
variable {p : Program} {e : Env} {R : Room} {s : State} {m : MethodId} {args : Array Value} {below : List Frame} {meth : Method} {c : Code} {Q : State → Prop} {mc ms : Nat} {A : Nat → Prop} {ad : Nat → Nat} {cells slots : Nat} {H : Heap} {locs : List Loc} {arr : Array Slot} {x : mjX}
/-- no making, no call -/
theorem mj_plain (IH : mjGo l D dT rec) (hx : mjAtI k pc = some x) (hM : mjM k = some (y, nL, ret, own, hh, np, stt)) (hk : k ≤ mjLaw)
    (hrun : (match mjAlu x.1 pc x.2.2.2.1 ls st with
        | some (pc', ls', st') => rec scr d k pc' ls' st' hp
        | none => match mjHp scr x pc st hp with
          | some (pc', st', hp2) => rec scr d k pc' ls st' hp2
          | none => none) = some (o, hp', dc, ds))
    (hC : mjCx k d y nL ret own hh p R s m args meth c mc ms A) (hc : cells + dc = mc) (hs : slots + ds = ms) (hR : mjR D dT ad A hp H) (hS : va_S A s.heap H locs) (hKX : mjKX D dT ad A s) (hSX : mjSX scr ad A s) (hl : lv_has arr nL (rll ad ls))
    (hK3 : mjK3 l D dT k nL ret own hh p e R s m args below meth c Q mc ms A o hp' hp.length ad) : W p l e R s m args below meth c H locs cells slots Q (F0 m pc arr (rls ad st)) := by
  obtain ⟨hd, hlen, hpre, hlk, -, -⟩ := mj_row hx hM hk
  have hC' := hC
  obtain ⟨hexec, hb, hret, hlocks, hml, hown, hini, hts, -⟩ := hC'
  split at hrun
  · rename_i pc' ls' st' he
    exact mjAlu_ok hexec hb hd hlen hpre he hl (fun arr' hl' => IH scr d k pc' ls' st' hp o hp' dc ds hrun y nL ret own hh np stt hM hk p e R s m args below meth c Q mc ms A hC ad cells slots H locs arr' hc hs hR hS hKX hSX hl' hK3)
  · split at hrun
    · rename_i pc' st' hp2 he
      have hlen2 : hp2.length = hp.length := by
        obtain ⟨i, n, a, b, w⟩ := x
        cases i <;> simp only [mjHp] at he <;> (repeat' (split at he)) <;> first | (cases he; done) | (simp only [Option.some.injEq, Prod.mk.injEq] at he; obtain ⟨-, -, rfl⟩ := he; first | rfl | simp)
      refine mjHp_ok (ini := y.name == "<init>") hexec hb hown hts hKX.1 (fun h => hini (by simpa using h)) hKX.2.1 hSX hd hlen hlk he hR hS (fun H2 locs2 hR2 hS2 => ?_)
      exact IH scr d k pc' ls st' hp2 o hp' dc ds hrun y nL ret own hh np stt hM hk p e R s m args below meth c Q mc ms A hC ad cells slots H2 locs2 arr hc hs hR2 hS2 hKX hSX hl (by rw [hlen2]; exact hK3)
    · cases hrun
theorem mj_sca {n m : Nat} (h : mjSca n m ls st = true) : n + m < mjS0 ∧ ls.all (fun q => mjSc n q.2) = true ∧ st.all (mjSc n) = true := by
  simp only [mjSca, Bool.and_eq_true, decide_eq_true_eq] at h
  exact ⟨h.1.1, h.1.2, h.2⟩
theorem mj_add {c0 s0 : Nat} {r : Option mjO} (h : mjAdd c0 s0 r = some (o, hp', dc, ds)) : ∃ c1 s1 : Nat, r = some (o, hp', c1, s1) ∧ dc = c0 + c1 ∧ ds = s0 + s1 := by
  cases r with
  | none => cases h
  | some q =>
    obtain ⟨o2, h2, c1, s1⟩ := q
    simp only [mjAdd, Option.some.injEq, Prod.mk.injEq] at h
    obtain ⟨rfl, rfl, rfl, rfl⟩ := h
    exact ⟨c1, s1, rfl, rfl, rfl⟩
/-- new: an object -/
theorem mj_new {i : Nat} (IH : mjGo l D dT rec) (hx : mjAtI k pc = some x) (hi : x.1 = .new i) (hb0 : x.2.2.2.1 = 0) (hM : mjM k = some (y, nL, ret, own, hh, np, stt)) (hk : k ≤ mjLaw)
    (hrun : (match vwCl[x.2.2.1]? with
          | some r => if mjSca hp.length 1 ls st = true then mjAdd 1 r.2.2 (rec scr d k (pc + 3) ls (.ref hp.length :: st) (hp ++ [mjFresh x.2.2.1 r.2.2])) else none
          | none => none) = some (o, hp', dc, ds))
    (hC : mjCx k d y nL ret own hh p R s m args meth c mc ms A) (hc : cells + dc = mc) (hs : slots + ds = ms) (hR : mjR D dT ad A hp H) (hS : va_S A s.heap H locs) (hKX : mjKX D dT ad A s) (hSX : mjSX scr ad A s) (hl : lv_has arr nL (rll ad ls))
    (hK3 : mjK3 l D dT k nL ret own hh p e R s m args below meth c Q mc ms A o hp' hp.length ad) : W p l e R s m args below meth c H locs cells slots Q (F0 m pc arr (rls ad st)) := by
  obtain ⟨hd, hlen, hpre, hlk, hlk2, -⟩ := mj_row hx hM hk
  have hC' := hC
  obtain ⟨hexec, hb, hret, hlocks, hml, hown, hini, hts, -, -, hmc, hms, hA⟩ := hC'
  split at hrun
  · rename_i r hr
    split at hrun
    · rename_i hsc
      obtain ⟨s1, s2, s3⟩ := mj_sca hsc
      obtain ⟨c1, z1, hrun2, rfl, rfl⟩ := mj_add hrun
      rw [hi] at hd hlen
      rw [hlen.resolve_left (by simp [mjLen])] at hd
      unfold mjLk2 at hlk2
      rw [hi] at hlk2
      simp only [hb0, if_true, hr] at hlk2
      refine mn_new hexec hb hown hts hKX.1 hd hr hlk2 (by omega) (by omega) hR hS hA s1 s3 (fun H' hR' hS' => ?_)
      exact IH scr d k (pc + 3) ls _ _ o hp' c1 z1 hrun2 y nL ret own hh np stt hM hk p e R s m args below meth c Q mc ms A hC _ _ _ H' locs arr (by omega) (by omega) hR' hS' (hKX.ag mjNx_ag) (hSX.ag mjNx_ag) (by rw [rll_ag mjNx_ag s2]; exact hl)
        (hK3.ag mjNx_ag (by simp))
    · cases hrun
  · cases hrun
theorem mj_newarray {t : ArrayType} (IH : mjGo l D dT rec) (hx : mjAtI k pc = some x) (hi : x.1 = .newarray t) (hM : mjM k = some (y, nL, ret, own, hh, np, stt)) (hk : k ≤ mjLaw)
    (hrun : (match st with
        | .int n :: r => if ¬ n < 0 ∧ n.toNatClampNeg ≤ 100000 ∧ mjSca hp.length 1 ls r = true then mjAdd 1 n.toNatClampNeg (rec scr d k (pc + 2) ls (.ref hp.length :: r) (hp ++ [mjZero (100 + x.2.2.1) n.toNatClampNeg])) else none
        | _ => none) = some (o, hp', dc, ds))
    (hC : mjCx k d y nL ret own hh p R s m args meth c mc ms A) (hc : cells + dc = mc) (hs : slots + ds = ms) (hR : mjR D dT ad A hp H) (hS : va_S A s.heap H locs) (hKX : mjKX D dT ad A s) (hSX : mjSX scr ad A s) (hl : lv_has arr nL (rll ad ls))
    (hK3 : mjK3 l D dT k nL ret own hh p e R s m args below meth c Q mc ms A o hp' hp.length ad) : W p l e R s m args below meth c H locs cells slots Q (F0 m pc arr (rls ad st)) := by
  obtain ⟨hd, hlen, hpre, hlk, hlk2, -⟩ := mj_row hx hM hk
  have hC' := hC
  obtain ⟨hexec, hb, hret, hlocks, hml, hown, hini, hts, -, -, hmc, hms, hA⟩ := hC'
  split at hrun
  · rename_i n r
    split at hrun
    · rename_i hsc
      obtain ⟨hn, hbig, hsc⟩ := hsc
      obtain ⟨s1, s2, s3⟩ := mj_sca hsc
      obtain ⟨c1, z1, hrun2, rfl, rfl⟩ := mj_add hrun
      rw [hi] at hd hlen
      rw [hlen.resolve_left (by simp [mjLen])] at hd
      unfold mjLk2 at hlk2
      rw [hi] at hlk2
      simp only [Bool.and_eq_true, decide_eq_true_eq] at hlk2
      refine mn_newarray hexec hb hts hKX.1 hd hlk2.1.1 hlk2.1.2 hlk2.2 hn hbig (by omega) (by omega) hR hS hA s1 s3 (fun H' hR' hS' => ?_)
      exact IH scr d k (pc + 2) ls _ _ o hp' c1 z1 hrun2 y nL ret own hh np stt hM hk p e R s m args below meth c Q mc ms A hC _ _ _ H' locs arr (by omega) (by omega) hR' hS' (hKX.ag mjNx_ag) (hSX.ag mjNx_ag) (by rw [rll_ag mjNx_ag s2]; exact hl)
        (hK3.ag mjNx_ag (by simp))
    · cases hrun
  · cases hrun
theorem mj_anewarray {t : Nat} (IH : mjGo l D dT rec) (hx : mjAtI k pc = some x) (hi : x.1 = .anewarray t) (hM : mjM k = some (y, nL, ret, own, hh, np, stt)) (hk : k ≤ mjLaw)
    (hrun : (match st with
        | .int n :: r => if ¬ n < 0 ∧ n.toNatClampNeg ≤ 100000 ∧ mjSca hp.length 1 ls r = true then mjAdd 1 n.toNatClampNeg (rec scr d k (pc + 3) ls (.ref hp.length :: r) (hp ++ [mjZero (100 + x.2.2.1) n.toNatClampNeg])) else none
        | _ => none) = some (o, hp', dc, ds))
    (hC : mjCx k d y nL ret own hh p R s m args meth c mc ms A) (hc : cells + dc = mc) (hs : slots + ds = ms) (hR : mjR D dT ad A hp H) (hS : va_S A s.heap H locs) (hKX : mjKX D dT ad A s) (hSX : mjSX scr ad A s) (hl : lv_has arr nL (rll ad ls))
    (hK3 : mjK3 l D dT k nL ret own hh p e R s m args below meth c Q mc ms A o hp' hp.length ad) : W p l e R s m args below meth c H locs cells slots Q (F0 m pc arr (rls ad st)) := by
  obtain ⟨hd, hlen, hpre, hlk, hlk2, -⟩ := mj_row hx hM hk
  have hC' := hC
  obtain ⟨hexec, hb, hret, hlocks, hml, hown, hini, hts, -, -, hmc, hms, hA⟩ := hC'
  split at hrun
  · rename_i n r
    split at hrun
    · rename_i hsc
      obtain ⟨hn, hbig, hsc⟩ := hsc
      obtain ⟨s1, s2, s3⟩ := mj_sca hsc
      obtain ⟨c1, z1, hrun2, rfl, rfl⟩ := mj_add hrun
      rw [hi] at hd hlen
      rw [hlen.resolve_left (by simp [mjLen])] at hd
      unfold mjLk2 at hlk2
      rw [hi] at hlk2
      have key : ∀ C : String, mjAty (100 + x.2.2.1) = .object C → x.2.2.1 < 7 → mjIs x.2.2.2.2 (.classLink own t C) = true → (Cond.arrayOver (.object C)).before args s = true → W p l e R s m args below meth c H locs cells slots Q (F0 m pc arr (rls ad (.int n :: r))) := by
        intro C h1 h2 h3 h4
        refine mn_anew hexec hb hown hts hKX.1 hd ⟨by omega, by omega⟩ h1 h3 h4 hn hbig (by omega) (by omega) hR hS hA s1 s3 (fun H' hR' hS' => ?_)
        exact IH scr d k (pc + 3) ls _ _ o hp' c1 z1 hrun2 y nL ret own hh np stt hM hk p e R s m args below meth c Q mc ms A hC _ _ _ H' locs arr (by omega) (by omega) hR' hS' (hKX.ag mjNx_ag) (hSX.ag mjNx_ag) (by rw [rll_ag mjNx_ag s2]; exact hl)
          (hK3.ag mjNx_ag (by simp))
      obtain ⟨k6, k7, -⟩ := hKX.2.2.2.2.2.1
      by_cases h4 : x.2.2.1 = 4
      · simp only [h4, if_true] at hlk2
        exact key RX4 (by rw [h4]; rfl) (by omega) hlk2 (va_AO.use k6)
      · simp only [h4, if_false, Bool.and_eq_true, decide_eq_true_eq] at hlk2
        exact key RX7 (by rw [hlk2.1]; rfl) (by omega) hlk2.2 (va_AO.use k7)
    · cases hrun
  · cases hrun
theorem mj_multi {t t2 : Nat} (IH : mjGo l D dT rec) (hx : mjAtI k pc = some x) (hi : x.1 = .multianewarray t t2) (hM : mjM k = some (y, nL, ret, own, hh, np, stt)) (hk : k ≤ mjLaw)
    (hrun : (match st with
        | .int m :: .int n :: r => if (¬ n < 0 ∧ n.toNatClampNeg ≤ 100000) ∧ (¬ m < 0 ∧ m.toNatClampNeg ≤ 100000) ∧ mjSca hp.length (1 + n.toNatClampNeg) ls r = true then
            mjAdd (1 + n.toNatClampNeg) (n.toNatClampNeg + n.toNatClampNeg * m.toNatClampNeg) (rec scr d k (pc + 4) ls (.ref hp.length :: r) (hp ++ mjMulti hp.length n.toNatClampNeg m.toNatClampNeg)) else none
        | _ => none) = some (o, hp', dc, ds))
    (hC : mjCx k d y nL ret own hh p R s m args meth c mc ms A) (hc : cells + dc = mc) (hs : slots + ds = ms) (hR : mjR D dT ad A hp H) (hS : va_S A s.heap H locs) (hKX : mjKX D dT ad A s) (hSX : mjSX scr ad A s) (hl : lv_has arr nL (rll ad ls))
    (hK3 : mjK3 l D dT k nL ret own hh p e R s m args below meth c Q mc ms A o hp' hp.length ad) : W p l e R s m args below meth c H locs cells slots Q (F0 m pc arr (rls ad st)) := by
  obtain ⟨hd, hlen, hpre, hlk, hlk2, -⟩ := mj_row hx hM hk
  have hC' := hC
  obtain ⟨hexec, hb, hret, hlocks, hml, hown, hini, hts, -, -, hmc, hms, hA⟩ := hC'
  split at hrun
  · rename_i m0 n r
    split at hrun
    · rename_i hsc
      obtain ⟨⟨hn, hbig⟩, ⟨hm, hbig2⟩, hsc⟩ := hsc
      obtain ⟨s1, s2, s3⟩ := mj_sca hsc
      obtain ⟨c1, z1, hrun2, rfl, rfl⟩ := mj_add hrun
      rw [hi] at hd hlen
      rw [hlen.resolve_left (by simp [mjLen])] at hd
      unfold mjLk2 at hlk2
      rw [hi] at hlk2
      simp only [Bool.and_eq_true, decide_eq_true_eq] at hlk2
      obtain ⟨⟨rfl, h2⟩, h3⟩ := hlk2
      refine mn_multi hexec hb hown hts hKX.1 hd h2 (va_AOA.use hKX.2.2.2.2.2.1.2.2) (hts _ (mjIs_in h3)) hn hbig hm hbig2 (by omega) (by omega) hR hS hA s1 s3 (fun H' hR' hS' => ?_)
      exact IH scr d k (pc + 4) ls _ _ o hp' c1 z1 hrun2 y nL ret own hh np stt hM hk p e R s m args below meth c Q mc ms A hC _ _ _ H' locs arr (by omega) (by omega) hR' hS' (hKX.ag mjNx_ag) (hSX.ag mjNx_ag) (by rw [rll_ag mjNx_ag s2]; exact hl)
        (hK3.ag mjNx_ag (by simp))
    · cases hrun
  · cases hrun
end MJSTEP

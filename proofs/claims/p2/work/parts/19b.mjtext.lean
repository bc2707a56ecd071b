/-! MJ: lengths and letters of texts -/
section MJTEXT
variable {l : Launch} {D : va_G} {dT : Nat → ClassId} {rec : mjRec} {scr : Option (List Int32)} {d k pc : Nat} {ls : mjL} {st : List Value} {hp hp' : mjH} {o : Option Value ⊕ Nat} {dc ds : Nat} {y : MethodName} {nL : Nat} {ret : Option FieldType} {own : String} {hh : List (Nat × Nat × Nat × Nat)} {np : Nat} {stt : Bool} {as : List Value}
variable {p : Program} {e : Env} {R : Room} {s : State} {m : MethodId} {args : Array Value} {below : List Frame} {meth : Method} {c : Code} {Q : State → Prop} {mc ms : Nat} {A : Nat → Prop} {ad : Nat → Nat} {cells slots : Nat} {H : Heap} {locs : List Loc} {arr : Array Slot} {x : mjX}
theorem mj_text (IH : mjGo l D dT rec) (hx : mjAtI k pc = some x) (hi : ∃ i, x.1 = .invokevirtual i) (h0 : x.2.2.1 = 900 ∨ x.2.2.1 = 901) (hM : mjM k = some (y, nL, ret, own, hh, np, stt)) (hk : k ≤ mjLaw)
    (hrun : mjText rec scr d k pc x ls st hp = some (o, hp', dc, ds))
    (hC : mjCx k d y nL ret own hh p R s m args meth c mc ms A) (hc : cells + dc = mc) (hs : slots + ds = ms) (hR : mjR D dT ad A hp H) (hS : va_S A s.heap H locs) (hKX : mjKX D dT ad A s) (hSX : mjSX scr ad A s) (hl : lv_has arr nL (rll ad ls))
    (hK3 : mjK3 l D dT k nL ret own hh p e R s m args below meth c Q mc ms A o hp' hp.length ad) : W p l e R s m args below meth c H locs cells slots Q (F0 m pc arr (rls ad st)) := by
  sorry
end MJTEXT

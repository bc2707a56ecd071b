/-! SX: writing, sound -/
noncomputable section SXWRK
/-- what is written keeps what always holds -/
def sxWs (c : sxCl) (x : sxN) (B : sxB) (a : sxV) : Bool := match c.2.2.2 with
  | [] => (match c.2.2.1 with | some p => sxVle B a p | none => false)
  | p0 :: ps => match x.1 with
    | 0 => (match aNth (p0 :: ps) x.2.toNat with
      | some p => (match sxVle B a p with
        | true => (match c.2.2.1 with | some q => sxVle B a q | none => true)
        | false => false)
      | none => false)
    | _ + 1 => false
def sxWrG (K : sxKx) (M : sxMo) (O : sxO) (G : sxG) (B : sxB) (i : Nat) (x : sxN) (a : sxV) (kl : List Nat) : Option (sxO × sxG) := match kl.all (fun g => sxMd M K.2.1 g) with
  | true => some ((i, x, a) :: (sxNewG K.2.1 B O i x a ++ sxOw kl K.2.1 B i x O), sxGn0 B i x a (sxGw kl K.2.1 B i x a G))
  | false => none
def sxWr (K : sxKx) (M : sxMo) (O : sxO) (G : sxG) (B : sxB) (tg : Nat → Bool) (i : Nat) (x : sxN) (a : sxV) : Option (sxO × sxG) := match aGet2 K.1 i with
  | some c => (match Nat.blt i K.2.1 with
    | true => (match tg c.1 with
      | true => (match sxInB B x c.2.1 with
        | true => (match sxWs c x B a with
          | true => (match sxMx M i x with
            | true => sxWrG K M O G B i x a (sxKill B O i x)
            | false => none)
          | false => none)
        | false => none)
      | false => none)
    | false => none)
  | none => none
variable {T : Nat} {σ σ' : List Int} {B : sxB} {O O' : sxO} {G G' : sxG} {K : sxKx} {H : mjH} {x y : sxN} {X Y : Int} {M : sxMo}
theorem sxWs_ok {c : sxCl} {e : mjE} {a : sxV} {w : Value} {j : Nat} (hB : sxBR T σ B) (h : sxWs c x B a = true) (hc : sxCR c e) (hx : sxNR σ x X) (hw : sxVR σ a w) : sxCR c (e.1, e.2.set X.toNat w) := by
  refine ⟨⟨hc.1.1, by rw [List.length_set]; exact hc.1.2⟩, fun j v hv => ?_⟩
  dsimp only at hv
  by_cases hj : X.toNat = j
  · subst hj
    have hl : X.toNat < e.2.length := by
      have := (List.getElem?_eq_some_iff.mp hv).1
      simpa using this
    rw [List.getElem?_set_self hl] at hv
    cases hv
    unfold sxWs at h
    split at h
    · rename_i hl0
      rw [hl0]
      split at h
      · rename_i p hp
        exact ⟨fun q hq => by cases hp.symm.trans hq; exact sxVle_ok hB h hw, fun q hq => by cases hq⟩
      · cases h
    · rename_i p0 ps hl0
      obtain ⟨s, k⟩ := x
      dsimp only at h
      split at h
      · have := sxN0 hB hx
        subst this
        split at h
        · rename_i p hp
          split at h
          · rename_i e1
            refine ⟨fun q hq => ?_, fun q hq => ?_⟩
            · rw [hq] at h
              exact sxVle_ok hB h hw
            · rw [hl0] at hq
              cases hp.symm.trans hq
              exact sxVle_ok hB e1 hw
          · cases h
        · cases h
      · cases h
  · rw [List.getElem?_set_ne hj] at hv
    exact hc.2 j v hv
theorem sxHR.set {i t : Nat} {vs : List Value} {c : sxCl} {e' : mjE} (hH : sxHR K H) (hc : aGet2 K.1 i = some c) (hi : H[i]? = some (t, vs)) (h : sxCR c e') : sxHR K (H.set i e') := by
  have hl := (List.getElem?_eq_some_iff.mp hi).1
  refine ⟨by rw [List.length_set]; exact hH.1, fun j d hd hj => ?_⟩
  by_cases hij : i = j
  · subst hij
    cases hc.symm.trans hd
    exact ⟨e', List.getElem?_set_self hl, h⟩
  · obtain ⟨e, h1, h2⟩ := hH.2 j d hd hj
    exact ⟨e, by rw [List.getElem?_set_ne hij]; exact h1, h2⟩
theorem sxVw_set {gh : sxGh} {scr : Option (List Int32)} {i t j : Nat} {vs : List Value} {w : Value} {kl : List Nat} (hg : ∀ g, ¬ g ∈ kl → gh (H.set i (t, vs.set j w)) g = gh H g) (hi : H[i]? = some (t, vs)) (hin : i < K.2.1) (hj : j < vs.length) : sxWv (sxVw gh scr K.2.1 H) (sxVw gh scr K.2.1 (H.set i (t, vs.set j w))) kl K.2.1 i j w := by
  have hil := (List.getElem?_eq_some_iff.mp hi).1
  have hel : ∀ a b, ¬ (a = i ∧ b = j) → sxEl (H.set i (t, vs.set j w)) a b = sxEl H a b := by
    intro a b hab
    unfold sxEl
    by_cases hai : i = a
    · subst hai
      rw [List.getElem?_set_self hil, hi]
      dsimp only
      rw [List.getElem?_set_ne (fun h => hab ⟨rfl, h.symm⟩)]
    · rw [List.getElem?_set_ne hai]
  refine ⟨?_, fun a b hab hga => ?_⟩
  · rw [sxVw_in hin (List.getElem?_set_self hil)]
    exact List.getElem?_set_self hj
  · unfold sxVw
    by_cases ha : a < K.2.1
    · rw [if_pos ha, if_pos ha]
      exact hel a b hab
    · rw [if_neg ha, if_neg ha]
      by_cases han : a = K.2.1
      · rw [if_pos han, if_pos han]
        exact hg b (hga han)
      · rw [if_neg han, if_neg han]
/-- nothing but such places has changed -/
def sxKp (M : sxMo) (vw vw' : Nat → Nat → Option Value) : Prop := ∀ i j, sxMd M i j = false → vw' i j = vw i j
theorem sxKp.rf {vw : Nat → Nat → Option Value} : sxKp M vw vw := fun _ _ _ => rfl
theorem sxKp.tr {a b c : Nat → Nat → Option Value} (h1 : sxKp M a b) (h2 : sxKp M b c) : sxKp M a c := fun i j h => (h2 i j h).trans (h1 i j h)
theorem sxWr_ok {gh : sxGh} {scr : Option (List Int32)} {tg : Nat → Bool} {i : Nat} {a : sxV} (hg : sxGd K gh) (hB : sxBR (gT gh) σ B) (hH : sxHR K H) (hO : sxOR (sxVw gh scr K.2.1 H) σ O) (hG : sxGR (sxVw gh scr K.2.1 H) σ G) (h : sxWr K M O G B tg i x a = some (O', G')) (hx : sxNR σ x X) :
    ∃ (t : Nat) (vs : List Value), H[i]? = some (t, vs) ∧ tg t = true ∧ 0 ≤ X ∧ X.toNat < vs.length ∧ ∀ w, sxVR σ a w → sxHR K (H.set i (t, vs.set X.toNat w)) ∧ sxOR (sxVw gh scr K.2.1 (H.set i (t, vs.set X.toNat w))) σ O' ∧ sxGR (sxVw gh scr K.2.1 (H.set i (t, vs.set X.toNat w))) σ G' ∧ sxKp M (sxVw gh scr K.2.1 H) (sxVw gh scr K.2.1 (H.set i (t, vs.set X.toNat w))) := by
  unfold sxWr at h
  split at h
  · rename_i c hc
    split at h
    · rename_i hlt
      have hlt : i < K.2.1 := bltOk hlt
      split at h
      · rename_i htg
        split at h
        · rename_i hin
          split at h
          · rename_i hws
            split at h
            · rename_i hmx
              obtain ⟨e, he, hce⟩ := hH.2 i c hc hlt
              obtain ⟨t, vs⟩ := e
              obtain ⟨h0, hlen⟩ := sxInB_ok hB hin hx
              have hl2 : X.toNat < vs.length := by
                have : c.2.1 = vs.length := hce.1.2
                omega
              have hne : i ≠ K.2.1 := by omega
              have hmd := sxMx_ok hB hmx hx
              refine ⟨t, vs, he, by rw [← (show c.1 = t from hce.1.1)]; exact htg, h0, hl2, ?_⟩
              unfold sxWrG at h
              split at h
              · rename_i hall
                cases h
                intro w hw
                obtain ⟨k1, k2⟩ := hg.1 σ B O scr H i t vs x X a w hB hO hH.1 he hx h0 hl2 hw
                have hv := sxVw_set (gh := gh) (scr := scr) (w := w) k1 he hlt hl2
                refine ⟨hH.set hc he (sxWs_ok (j := 0) hB hws hce hx hw), ?_, ?_, ?_⟩
                · intro q hq
                  rcases List.mem_cons.mp hq with rfl | hq
                  · exact ⟨X, w, hx, h0, hv.1, hw⟩
                  · rcases List.mem_append.mp hq with hq | hq
                    · exact k2 q hq
                    · exact sxOw_ok hB hx h0 hne hv hO q hq
                · exact sxGn0_ok hB hx hw hv.1 (sxGw_ok hB hx hw h0 hne hv hG)
                · intro p q hpq
                  refine hv.2 p q (fun hc => ?_) (fun hpn hqm => ?_)
                  · rw [hc.1, hc.2, hmd] at hpq
                    cases hpq
                  · have := List.all_eq_true.mp hall q hqm
                    rw [← hpn, hpq] at this
                    cases this
              · cases h
            · cases h
          · cases h
        · cases h
      · cases h
    · cases h
  · cases h
end SXWRK

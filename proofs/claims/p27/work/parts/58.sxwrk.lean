/-! SX: writing, sound -/
noncomputable section SXWRK
/-- what is written keeps what always holds -/
def sxWs (c : sxCl) (x : sxN) (B : sxB) (a : sxV) : Bool := match c.2.2.2 with
  | [] => (match c.2.2.1 with | some p => sxVle B a p | none => false)
  | p0 :: ps => match x.1 with
    | 0 => (match aNth (p0 :: ps) x.2.toNat with
      | some p => (match sxVle B a p with
        | true => (match c.2.2.1 with | some q => sxVle B a q | none => true)
        | false => false)
      | none => false)
    | _ + 1 => false
/-- what is known of the ghost's own row, behind a writing -/
def cmO (kl : List Nat) (n : Nat) (B : sxB) (x : sxN) (O : sxO) : sxO := match kl.any (fun g => Nat.beq g 1001) with
  | false => O
  | true => O.filter (fun q => match Nat.beq q.1 (n + 1) with | true => sxLe B q.2.1 x 0 | false => true)
def cmG (kl : List Nat) (n : Nat) (G : sxG) : sxG := match kl.any (fun g => Nat.beq g 1001) with
  | false => G
  | true => G.filter (fun q => match Nat.beq q.1 (n + 1) with | true => false | false => true)
def sxWrG (K : sxKx) (M : sxMo) (O : sxO) (G : sxG) (B : sxB) (i : Nat) (x : sxN) (a : sxV) (kl : List Nat) : Option (sxO × sxG) := match kl.all (fun g => match Nat.beq g 1001 with | true => sxMx M (K.2.1 + 1) (1, 0) | false => sxMd M K.2.1 g) with
  | true => some ((i, x, a) :: (sxNewG K.2.1 B O i x a ++ cmO kl K.2.1 B x (sxOw kl K.2.1 B i x O)), sxGn0 B i x a (cmG kl K.2.1 (sxGw kl K.2.1 B i x a G)))
  | false => none
def sxWr (K : sxKx) (M : sxMo) (O : sxO) (G : sxG) (B : sxB) (tg : Nat → Bool) (i : Nat) (x : sxN) (a : sxV) : Option (sxO × sxG) := match aGet2 K.1 i with
  | some c => (match Nat.blt i K.2.1 with
    | true => (match tg c.1 with
      | true => (match sxInB B x c.2.1 with
        | true => (match sxWs c x B a with
          | true => (match sxMx M i x with
            | true => sxWrG K M O G B i x a (sxKill B O i x)
            | false => none)
          | false => none)
        | false => none)
      | false => none)
    | false => none)
  | none => none
variable {T : Nat} {σ σ' : List Int} {B : sxB} {O O' : sxO} {G G' : sxG} {K : sxKx} {H : mjH} {x y : sxN} {X Y : Int} {M : sxMo}
theorem sxWs_ok {c : sxCl} {e : mjE} {a : sxV} {w : Value} {j : Nat} (hB : sxBR T σ B) (h : sxWs c x B a = true) (hc : sxCR c e) (hx : sxNR σ x X) (hw : sxVR σ a w) : sxCR c (e.1, e.2.set X.toNat w) := by
  refine ⟨⟨hc.1.1, by rw [List.length_set]; exact hc.1.2⟩, fun j v hv => ?_⟩
  dsimp only at hv
  by_cases hj : X.toNat = j
  · subst hj
    have hl : X.toNat < e.2.length := by
      have := (List.getElem?_eq_some_iff.mp hv).1
      simpa using this
    rw [List.getElem?_set_self hl] at hv
    cases hv
    unfold sxWs at h
    split at h
    · rename_i hl0
      rw [hl0]
      split at h
      · rename_i p hp
        exact ⟨fun q hq => by cases hp.symm.trans hq; exact sxVle_ok hB h hw, fun q hq => by cases hq⟩
      · cases h
    · rename_i p0 ps hl0
      obtain ⟨s, k⟩ := x
      dsimp only at h
      split at h
      · have := sxN0 hB hx
        subst this
        split at h
        · rename_i p hp
          split at h
          · rename_i e1
            refine ⟨fun q hq => ?_, fun q hq => ?_⟩
            · rw [hq] at h
              exact sxVle_ok hB h hw
            · rw [hl0] at hq
              cases hp.symm.trans hq
              exact sxVle_ok hB e1 hw
          · cases h
        · cases h
      · cases h
  · rw [List.getElem?_set_ne hj] at hv
    exact hc.2 j v hv
theorem sxHR.set {i t : Nat} {vs : List Value} {c : sxCl} {e' : mjE} (hH : sxHR K H) (hc : aGet2 K.1 i = some c) (hi : H[i]? = some (t, vs)) (h : sxCR c e') : sxHR K (H.set i e') := by
  have hl := (List.getElem?_eq_some_iff.mp hi).1
  refine ⟨by rw [List.length_set]; exact hH.1, fun j d hd hj => ?_⟩
  by_cases hij : i = j
  · subst hij
    cases hc.symm.trans hd
    exact ⟨e', List.getElem?_set_self hl, h⟩
  · obtain ⟨e, h1, h2⟩ := hH.2 j d hd hj
    exact ⟨e, by rw [List.getElem?_set_ne hij]; exact h1, h2⟩
theorem sxVw_set {gh : sxGh} {scr : Option (List Int32)} {i t j : Nat} {vs : List Value} {w : Value} {kl : List Nat} (hg : ∀ g, ¬ g ∈ kl → gh (H.set i (t, vs.set j w)) g = gh H g) (hi : H[i]? = some (t, vs)) (hin : i < K.2.1) (hj : j < vs.length) : sxWv (sxVw gh scr K.2.1 H) (fun a b => if a = K.2.1 + 1 then sxVw gh scr K.2.1 H a b else sxVw gh scr K.2.1 (H.set i (t, vs.set j w)) a b) kl K.2.1 i j w := by
  have hil := (List.getElem?_eq_some_iff.mp hi).1
  have hel : ∀ a b, ¬ (a = i ∧ b = j) → sxEl (H.set i (t, vs.set j w)) a b = sxEl H a b := by
    intro a b hab
    unfold sxEl
    by_cases hai : i = a
    · subst hai
      rw [List.getElem?_set_self hil, hi]
      dsimp only
      rw [List.getElem?_set_ne (fun h => hab ⟨rfl, h.symm⟩)]
    · rw [List.getElem?_set_ne hai]
  refine ⟨?_, fun a b hab hga => ?_⟩
  · show (if i = K.2.1 + 1 then sxVw gh scr K.2.1 H i j else sxVw gh scr K.2.1 (H.set i (t, vs.set j w)) i j) = some w
    have hn1 : ¬ i = K.2.1 + 1 := by omega
    rw [if_neg hn1, sxVw_in hin (List.getElem?_set_self hil)]
    exact List.getElem?_set_self hj
  · show (if a = K.2.1 + 1 then sxVw gh scr K.2.1 H a b else sxVw gh scr K.2.1 (H.set i (t, vs.set j w)) a b) = sxVw gh scr K.2.1 H a b
    by_cases hn1 : a = K.2.1 + 1
    · rw [if_pos hn1]
    rw [if_neg hn1]
    unfold sxVw
    by_cases ha : a < K.2.1
    · rw [if_pos ha, if_pos ha]
      exact hel a b hab
    · rw [if_neg ha, if_neg ha]
      by_cases han : a = K.2.1
      · rw [if_pos han, if_pos han]
        exact hg b (hga han)
      · rw [if_neg han, if_neg han, if_neg hn1, if_neg hn1]
/-- nothing but such places has changed -/
def sxKp (M : sxMo) (vw vw' : Nat → Nat → Option Value) : Prop := ∀ i j, sxMd M i j = false → vw' i j = vw i j
theorem sxKp.rf {vw : Nat → Nat → Option Value} : sxKp M vw vw := fun _ _ _ => rfl
theorem sxKp.tr {a b c : Nat → Nat → Option Value} (h1 : sxKp M a b) (h2 : sxKp M b c) : sxKp M a c := fun i j h => (h2 i j h).trans (h1 i j h)
theorem sxVw_cm {gh : sxGh} {scr : Option (List Int32)} {n b : Nat} {H H' : mjH} (h : gh ((b, []) :: H') 1001 = gh ((b, []) :: H) 1001) : sxVw gh scr n H' (n + 1) b = sxVw gh scr n H (n + 1) b := by
  have e1 : ¬ n + 1 < n := by omega
  have e2 : ¬ n + 1 = n := by omega
  unfold sxVw
  rw [if_neg e1, if_neg e1, if_neg e2, if_neg e2, h]
theorem cmO_ok {kl : List Nat} {n : Nat} (hB : sxBR T σ B) (hx : sxNR σ x X) (h0 : 0 ≤ X) {vw1 vw2 : Nat → Nat → Option Value} (hA : ∀ a b, ¬ a = n + 1 → vw1 a b = vw2 a b) (hN : ∀ b, (1001 ∈ kl → b ≤ X.toNat) → vw1 (n + 1) b = vw2 (n + 1) b) {O : sxO} (hO : sxOR vw2 σ O) : sxOR vw1 σ (cmO kl n B x O) := by
  have go : ∀ q ∈ O, (q.1 = n + 1 → 1001 ∈ kl → ∀ z : Int, sxNR σ q.2.1 z → z ≤ X) → ∃ (z : Int) (v : Value), sxNR σ q.2.1 z ∧ 0 ≤ z ∧ vw1 q.1 z.toNat = some v ∧ sxVR σ q.2.2 v := by
    intro q hq hk
    obtain ⟨z, v, h1, h2, h3, h4⟩ := hO q hq
    refine ⟨z, v, h1, h2, ?_, h4⟩
    by_cases e : q.1 = n + 1
    · rw [e] at h3 ⊢
      rw [hN z.toNat (fun hm => by have := hk e hm z h1; omega)]
      exact h3
    · rw [hA _ _ e]
      exact h3
  unfold cmO
  split
  · rename_i hk
    intro q hq
    refine go q hq (fun _ hm => ?_)
    have h1 : kl.any (fun g => Nat.beq g 1001) = true := List.any_eq_true.mpr ⟨1001, hm, rfl⟩
    rw [hk] at h1
    cases h1
  · intro q hq
    obtain ⟨hq, hp⟩ := List.mem_filter.mp hq
    refine go q hq (fun e _ z hz => ?_)
    have hp : (match Nat.beq q.1 (n + 1) with | true => sxLe B q.2.1 x 0 | false => true) = true := hp
    have e2 : Nat.beq q.1 (n + 1) = true := by rw [e]; exact Nat.beq_refl _
    rw [e2] at hp
    have h1 := sxLe_ok hB (show sxLe B q.2.1 x 0 = true from hp) hz hx
    omega
theorem cmG_ok {kl : List Nat} {n : Nat} {vw1 vw2 : Nat → Nat → Option Value} (hA : ∀ a b, ¬ a = n + 1 → vw1 a b = vw2 a b) (hN : ∀ b, (1001 ∈ kl → b ≤ X.toNat) → vw1 (n + 1) b = vw2 (n + 1) b) {G : sxG} (hG : sxGR vw2 σ G) : sxGR vw1 σ (cmG kl n G) := by
  unfold cmG
  split
  · rename_i hk
    intro q hq
    obtain ⟨z, h1, h2⟩ := hG q hq
    refine ⟨z, h1, fun j v hj hv => h2 j v hj ?_⟩
    by_cases e : q.1 = n + 1
    · rw [e] at hv ⊢
      have hn : ¬ 1001 ∈ kl := fun hm => by
        have h1 : kl.any (fun g => Nat.beq g 1001) = true := List.any_eq_true.mpr ⟨1001, hm, rfl⟩
        rw [hk] at h1
        cases h1
      rw [← hN j (fun hm => absurd hm hn)]
      exact hv
    · rw [← hA _ _ e]
      exact hv
  · intro q hq
    obtain ⟨hq, hp⟩ := List.mem_filter.mp hq
    obtain ⟨z, h1, h2⟩ := hG q hq
    refine ⟨z, h1, fun j v hj hv => h2 j v hj ?_⟩
    have e : ¬ q.1 = n + 1 := fun e => by
      have hp : (match Nat.beq q.1 (n + 1) with | true => false | false => true) = true := hp
      have e2 : Nat.beq q.1 (n + 1) = true := by rw [e]; exact Nat.beq_refl _
      rw [e2] at hp
      cases hp
    rw [← hA _ _ e]
    exact hv
theorem sxMx_all {i : Nat} (h : sxMx M i (1, 0) = true) (j : Nat) : sxMd M i j = true := by
  obtain ⟨q, h1, h2⟩ := List.any_eq_true.mp (show M.any (fun q => match sxMi q.1 i with | true => (match q.2 with | 0 => true | _ + 1 => false) | false => false) = true from h)
  refine List.any_eq_true.mpr ⟨q, h1, ?_⟩
  try dsimp only at h2
  try dsimp only
  split at h2
  · rename_i e
    rw [e]
    dsimp only
    split at h2
    · rename_i e2
      rw [e2]
    · cases h2
  · cases h2
theorem sxWr_ok {gh : sxGh} {scr : Option (List Int32)} {tg : Nat → Bool} {i : Nat} {a : sxV} (hg : sxGd K gh) (hB : sxBR (gT gh) σ B) (hH : sxHR K H) (hO : sxOR (sxVw gh scr K.2.1 H) σ O) (hG : sxGR (sxVw gh scr K.2.1 H) σ G) (h : sxWr K M O G B tg i x a = some (O', G')) (hx : sxNR σ x X) :
    ∃ (t : Nat) (vs : List Value), H[i]? = some (t, vs) ∧ tg t = true ∧ 0 ≤ X ∧ X.toNat < vs.length ∧ ∀ w, sxVR σ a w → sxHR K (H.set i (t, vs.set X.toNat w)) ∧ sxOR (sxVw gh scr K.2.1 (H.set i (t, vs.set X.toNat w))) σ O' ∧ sxGR (sxVw gh scr K.2.1 (H.set i (t, vs.set X.toNat w))) σ G' ∧ sxKp M (sxVw gh scr K.2.1 H) (sxVw gh scr K.2.1 (H.set i (t, vs.set X.toNat w))) := by
  unfold sxWr at h
  split at h
  · rename_i c hc
    split at h
    · rename_i hlt
      have hlt : i < K.2.1 := bltOk hlt
      split at h
      · rename_i htg
        split at h
        · rename_i hin
          split at h
          · rename_i hws
            split at h
            · rename_i hmx
              obtain ⟨e, he, hce⟩ := hH.2 i c hc hlt
              obtain ⟨t, vs⟩ := e
              obtain ⟨h0, hlen⟩ := sxInB_ok hB hin hx
              have hl2 : X.toNat < vs.length := by
                have : c.2.1 = vs.length := hce.1.2
                omega
              have hne : i ≠ K.2.1 := by omega
              have hmd := sxMx_ok hB hmx hx
              refine ⟨t, vs, he, by rw [← (show c.1 = t from hce.1.1)]; exact htg, h0, hl2, ?_⟩
              unfold sxWrG at h
              split at h
              · rename_i hall
                cases h
                intro w hw
                obtain ⟨k1, k2, k3⟩ := hg.1 σ B O scr H i t vs x X a w hB hO hH.1 he hx h0 hl2 hw
                have hv := sxVw_set (gh := gh) (scr := scr) (w := w) (kl := sxKill B O i x) (fun g hgk => k1 g (fun h => absurd h hgk)) he hlt hl2
                have hv1 : sxVw gh scr K.2.1 (H.set i (t, vs.set X.toNat w)) i X.toNat = some w := (if_neg (show ¬ i = K.2.1 + 1 by omega)).symm.trans hv.1
                have hA : ∀ a b, ¬ a = K.2.1 + 1 → sxVw gh scr K.2.1 (H.set i (t, vs.set X.toNat w)) a b = (fun a b => if a = K.2.1 + 1 then sxVw gh scr K.2.1 H a b else sxVw gh scr K.2.1 (H.set i (t, vs.set X.toNat w)) a b) a b := fun a b e => (if_neg e).symm
                have hN : ∀ b, (1001 ∈ sxKill B O i x → b ≤ X.toNat) → sxVw gh scr K.2.1 (H.set i (t, vs.set X.toNat w)) (K.2.1 + 1) b = (fun a b => if a = K.2.1 + 1 then sxVw gh scr K.2.1 H a b else sxVw gh scr K.2.1 (H.set i (t, vs.set X.toNat w)) a b) (K.2.1 + 1) b := fun b hb => (sxVw_cm (k3 b hb)).trans (if_pos rfl).symm
                refine ⟨hH.set hc he (sxWs_ok (j := 0) hB hws hce hx hw), ?_, ?_, ?_⟩
                · intro q hq
                  rcases List.mem_cons.mp hq with rfl | hq
                  · exact ⟨X, w, hx, h0, hv1, hw⟩
                  · rcases List.mem_append.mp hq with hq | hq
                    · exact k2 q hq
                    · exact cmO_ok hB hx h0 hA hN (sxOw_ok hB hx h0 hne hv hO) q hq
                · exact sxGn0_ok hB hx hw hv1 (cmG_ok hA hN (sxGw_ok hB hx hw h0 hne hv hG))
                · intro p q hpq
                  by_cases hp1 : p = K.2.1 + 1
                  · rw [hp1] at hpq ⊢
                    refine sxVw_cm (k3 q (fun hm => ?_))
                    have h1 : sxMx M (K.2.1 + 1) (1, 0) = true := List.all_eq_true.mp hall 1001 hm
                    rw [sxMx_all h1 q] at hpq
                    cases hpq
                  by_cases hq1 : p = K.2.1 ∧ q = 1001
                  · rw [hq1.1, hq1.2]
                    unfold sxVw
                    rw [if_neg (Nat.lt_irrefl _), if_neg (Nat.lt_irrefl _), if_pos rfl, if_pos rfl]
                    exact k1 1001 (fun _ => rfl)
                  · refine (hA p q hp1).trans (hv.2 p q (fun hc => ?_) (fun hpn hqm => ?_))
                    · rw [hc.1, hc.2, hmd] at hpq
                      cases hpq
                    · have h1 : (match Nat.beq q 1001 with | true => sxMx M (K.2.1 + 1) (1, 0) | false => sxMd M K.2.1 q) = true := List.all_eq_true.mp hall q hqm
                      have h2 : Nat.beq q 1001 = false := by
                        cases e : Nat.beq q 1001 with
                        | false => rfl
                        | true => exact absurd ⟨hpn, Nat.eq_of_beq_eq_true e⟩ hq1
                      rw [h2, ← hpn] at h1
                      have h1 : sxMd M p q = true := h1
                      rw [hpq] at h1
                      cases h1
              · cases h
            · cases h
          · cases h
        · cases h
      · cases h
    · cases h
  · cases h
end SXWRK

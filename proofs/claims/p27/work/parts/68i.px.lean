/-! PX: a contract of two from a check -/
noncomputable section PX9
def pxJob (K : sxKx) (cts cts' : List sxCt) (pcts : List pxCq) (c : pxCt) (cuts : List pxCu) (sp sp' : List (Nat × Nat × Nat)) (ks : List Nat × List Nat) : pxJb :=
  (((K, c.2.2.2.1.1, c.2.1.1, none), cts, c.1.1, cuts.map (fun u => (u.1.1, u.2.1.1, u.2.2.1, 0, 0)), c.2.2.1.1.1, [], [], c.2.2.2.2.1.1, sp),
    ((K, c.2.2.2.1.2, c.2.1.2, none), cts', c.1.2, cuts.map (fun u => (u.1.2, u.2.1.2, u.2.2.1, 0, 0)), c.2.2.1.1.1, [], [], c.2.2.2.2.1.2, sp'), pcts, cuts, c.2.2.2.2.2, ks)
/-- both go one step, then on -/
def pxGo2 (J : pxJb) (ih : sxE1 → sxE1 → Bool) (s s' : sxS) : Bool := pxStL J (fun e e' => match e' with | .inl s' => pxStR J ih e s' | .inr _ => false) s (.inl s')
theorem pxGo2_cj {J : pxJb} {s s' : sxS} {G : (sxE1 → sxE1 → Bool) → sxE1 → sxE1 → Bool} (hG : ∀ e e', pxCj (fun ih => G ih e e')) : pxCj (fun ih => pxGo2 J (G ih) s s') := by
  unfold pxGo2
  refine pxStL_cj (G := fun ih e e' => match e' with | .inl s' => pxStR J (G ih) e s' | .inr _ => false) (fun e e' => ?_)
  cases e' with
  | inl s' => exact pxStR_cj hG
  | inr q => exact pxCj_c _
/-- of a cut: do both go their first step (0), the right one alone (1), the left one alone (2)? -/
def pxOne (u : pxCu) : Nat := match Nat.beq u.2.2.1.2.2.1 0 with
  | false => 0
  | true => match Nat.beq u.2.2.1.2.2.2.1 0 with
    | false => 0
    | true => match u.2.2.1.2.2.2.2 with
      | .ofNat c => c
      | .negSucc _ => 0
def pxGoU (J : pxJb) (u : pxCu) (ih : sxE1 → sxE1 → Bool) (s s' : sxS) : Bool := match Nat.beq (pxOne u) 1 with
  | true => pxStR J ih (.inl s) s'
  | false => match Nat.beq (pxOne u) 2 with
    | true => pxStL J ih s (.inl s')
    | false => pxGo2 J ih s s'
theorem pxGoU_cj {J : pxJb} {u : pxCu} {s s' : sxS} {G : (sxE1 → sxE1 → Bool) → sxE1 → sxE1 → Bool} (hG : ∀ e e', pxCj (fun ih => G ih e e')) : pxCj (fun ih => pxGoU J u (G ih) s s') := by
  unfold pxGoU
  cases Nat.beq (pxOne u) 1 with
  | true => exact pxStR_cj hG
  | false =>
    cases Nat.beq (pxOne u) 2 with
    | true => exact pxStL_cj hG
    | false => exact pxGo2_cj hG
theorem pxGoU_ok {J : pxJb} {gh : sxGh} {scr scr' : Option (List Int32)} {v0 v0' : Nat → Nat → Option Value} {d0 d0' : Nat} {τ : List Int} {Y : mjO → mjO → Prop} {u : pxCu} {s s' : sxS} {ih : sxE1 → sxE1 → Bool} (hGd : sxGd J.1.1.1 gh) (hK : J.1.1.1.2.1 < mjScr) (hd0 : J.1.1.2.2.1 ≤ d0) (hV : ∀ ct ∈ J.1.2.1, sxCtV J.1.1.1 gh ct) (hGd' : sxGd J.2.1.1.1 gh) (hK' : J.2.1.1.1.2.1 < mjScr) (hd0' : J.2.1.1.2.2.1 ≤ d0') (hV' : ∀ ct ∈ J.2.1.2.1, sxCtV J.2.1.1.1 gh ct)
    (hi : ∀ e e', ih e e' = true → pxQ1 J gh scr scr' v0 v0' d0 d0' τ Y e e') (h : pxGoU J u ih s s' = true) : pxQ1 J gh scr scr' v0 v0' d0 d0' τ Y (.inl s) (.inl s') := by
  unfold pxGoU at h
  split at h
  · exact pxStR_ok hGd' hK' hd0' hV' hi h
  · split at h
    · exact pxStL_ok hGd hK hd0 hV hi h
    · refine pxStL_ok hGd hK hd0 hV (fun e e' he => ?_) h
      cases e' with
      | inr q => cases he
      | inl s2 => exact pxStR_ok hGd' hK' hd0' hV' hi he
/-- a mark by which the ways of a check are dealt out -/
def pxHsD (D : sxD) : Nat := List.rec 0 (fun q _ ih => ih + (q.1 + 3) * ((q.2.2 + 5).toNat + 7 * (5 - q.2.1).toNat)) D
def pxHsE : sxE1 → Nat
  | .inl s => s.2.2.1
  | .inr _ => 7
def pxHs (e e' : sxE1) : Nat := pxHsE e * 3 + pxHsE e' * 5 + pxHsD (pxEB e).2.1
/-- those whose mark leaves i -/
def pxPs (m i : Nat) (f : sxE1 → sxE1 → Bool) (e e' : sxE1) : Bool := match Nat.beq (pxHs e e' % m) i with
  | true => f e e'
  | false => true
theorem pxPs_cj {m i : Nat} {G : (sxE1 → sxE1 → Bool) → sxE1 → sxE1 → Bool} (hG : ∀ e e', pxCj (fun ih => G ih e e')) (e e' : sxE1) : pxCj (fun ih => pxPs m i (G ih) e e') := by
  unfold pxPs
  cases Nat.beq (pxHs e e' % m) i with
  | true => exact hG e e'
  | false => exact pxCj_c _
/-- pieces: k steps, those of the mark; of these perhaps k2 steps more, those of a second mark -/
def pxP1 (J : pxJb) (me : Option sxMe) (N k m i : Nat) : sxE1 → sxE1 → Bool := pxGoK J me k (pxPs m i (pxGo J me N))
def pxP2 (J : pxJb) (me : Option sxMe) (N k m i k2 m2 j : Nat) : sxE1 → sxE1 → Bool := pxGoK J me k (pxPs m i (pxGoK J me k2 (pxPs m2 j (pxGo J me N))))
/-- a check of two states, dealt out -/
def pxDl (J : pxJb) (me : Option sxMe) (Φ : (sxE1 → sxE1 → Bool) → Bool) : Prop := ∃ k m, 0 < m ∧ ∀ i, i < m → (∃ N, Φ (pxP1 J me N k m i) = true) ∨ ∃ N k2 m2, 0 < m2 ∧ ∀ j, j < m2 → Φ (pxP2 J me N k m i k2 m2 j) = true
/-- a cut's check, and one from the method's head -/
def pxCuF (J : pxJb) (u : pxCu) (f : sxE1 → sxE1 → Bool) : Bool := pxGoU J u f (sxSt J.1.2.2.1 u.1.1 u.2.1.1 u.2.2.2.1.1 u.2.2.2.1.2) (sxSt J.2.1.2.2.1 u.1.2 u.2.1.2 u.2.2.2.2.1 u.2.2.2.2.2)
def pxEnF (J : pxJb) (pre : pxPt) (f : sxE1 → sxE1 → Bool) : Bool := f (.inl (sxSt J.1.2.2.1 0 pre.1 0 0)) (.inl (sxSt J.2.1.2.2.1 0 pre.2 0 0))
def pxCuH (J : pxJb) (u : pxCu) : Prop := sxPos3 u.2.1.1 u.2.2.1 = true ∧ pxDl J (some u.2.2.1) (pxCuF J u)
def pxEnH (J : pxJb) (pre : pxPt) : Prop := pxDl J none (pxEnF J pre)
/-- dealt out, it is as good as one -/
theorem pxDl_ok {J : pxJb} {me : Option sxMe} {Φ : (sxE1 → sxE1 → Bool) → Bool} {Q : sxE1 → sxE1 → Prop} (hΦ : ∀ {G : (sxE1 → sxE1 → Bool) → sxE1 → sxE1 → Bool}, (∀ e e', pxCj (fun ih => G ih e e')) → pxCj (fun ih => Φ (G ih))) (h : pxDl J me Φ)
    (hK : ∀ (k : Nat) (f : sxE1 → sxE1 → Bool), (∀ e e', f e e' = true → Q e e') → ∀ e e', pxGoK J me k f e e' = true → Q e e') :
    ∃ f : sxE1 → sxE1 → Bool, (∀ e e', f e e' = true → Q e e') ∧ Φ f = true := by
  obtain ⟨k, m, hm, h⟩ := h
  have one : ∀ (m : Nat), 0 < m → ∀ (F : Nat → sxE1 → sxE1 → Bool), (∀ i, i < m → ∀ e e', F i e e' = true → Q e e') → ∀ e e', (List.range m).all (fun i => pxPs m i (F i) e e') = true → Q e e' := by
    intro m hm F hF e e' ha
    have hlt := Nat.mod_lt (pxHs e e') hm
    have hq := List.all_eq_true.mp ha (pxHs e e' % m) (List.mem_range.mpr hlt)
    unfold pxPs at hq
    rw [Nat.beq_refl] at hq
    exact hF _ hlt e e' hq
  have leaf : ∀ N e e', pxGo J me N e e' = true → Q e e' := fun N => hK N (fun _ _ => false) (fun _ _ h => by cases h)
  have sub : ∀ i, i < m → ∃ F : sxE1 → sxE1 → Bool, (∀ e e', F e e' = true → Q e e') ∧ Φ (pxGoK J me k (pxPs m i F)) = true := by
    intro i hi
    rcases h i hi with ⟨N, h1⟩ | ⟨N, k2, m2, hm2, h1⟩
    · exact ⟨pxGo J me N, leaf N, h1⟩
    · refine ⟨pxGoK J me k2 (fun e e' => (List.range m2).all (fun j => pxPs m2 j (pxGo J me N) e e')), hK k2 _ (one m2 hm2 _ (fun _ _ => leaf N)), ?_⟩
      exact hΦ (G := fun f => pxGoK J me k (pxPs m i (pxGoK J me k2 f))) (fun e e' m' g hm' hg => pxCj_K k e e' m' (fun z => pxPs m i (pxGoK J me k2 (g z))) hm' hg |> fun q => pxGoK_mono (fun e2 e2' hh => pxPs_cj (fun e e' => pxCj_K k2 e e') e2 e2' m' g hm' (fun z hz => List.all_eq_true.mp hh z (List.mem_range.mpr hz))) k e e' q) m2 (fun j => pxPs m2 j (pxGo J me N)) hm2 h1
  refine ⟨pxGoK J me k (fun e e' => (List.range m).all (fun i => pxPs m i (if hi : i < m then Classical.choose (sub i hi) else fun _ _ => false) e e')), hK k _ (one m hm _ (fun i hi e e' hh => ?_)), ?_⟩
  · rw [dif_pos hi] at hh
    exact (Classical.choose_spec (sub i hi)).1 e e' hh
  · refine hΦ (G := fun f => pxGoK J me k f) (fun e e' => pxCj_K k e e') m (fun i => pxPs m i (if hi : i < m then Classical.choose (sub i hi) else fun _ _ => false)) hm (fun i hi => ?_)
    dsimp only
    rw [dif_pos hi]
    exact (Classical.choose_spec (sub i hi)).2
variable {K : sxKx} {gh : sxGh}
theorem pxMe_ok {cts cts' : List sxCt} {pcts : List pxCq} {c : pxCt} {cuts : List pxCu} {sp sp' : List (Nat × Nat × Nat)} {ks : List Nat × List Nat} {P : Nat → Nat → List Int → Prop} (hcuts : ∀ u ∈ cuts, pxCuH (pxJob K cts cts' pcts c cuts sp sp' ks) u) (h : pxEnH (pxJob K cts cts' pcts c cuts sp sp' ks) c.2.2.1)
    (hGd : sxGd K gh) (hK : K.2.1 < mjScr) (hr : 0 < c.2.2.1.1.1) (hV : ∀ c' ∈ cts, sxCtV K gh c') (hV' : ∀ c' ∈ cts', sxCtV K gh c')
    (hP : ∀ (d d' : Nat) (τ : List Int) (n : Nat) (vw : Nat → Nat → Option Value) (cl : mjL), P d d' τ → sxPtR (gT gh) n vw τ c.2.2.1.1 cl [] → (c.2.1.1 ≤ d ∧ c.2.1.2 ≤ d') ∧ ∀ q ∈ pcts, pxCtW K gh q.1 (pxOk q.2 q.1 τ) ∧ pxWk q.2 c.2.1.1 c.2.1.2 τ d d') : pxCtW K gh c P := by
  intro scr scr' Y d d' τ cl cl' H H' hPd hH hH' hpre hpre' hpost
  obtain ⟨⟨hd, hd'⟩, hW⟩ := hP d d' τ _ _ _ hPd hpre
  have hE : pxHE (pxJob K cts cts' pcts c cuts sp sp' ks) gh scr scr' (sxVw gh scr K.2.1 H) (sxVw gh scr' K.2.1 H') τ Y := fun p hp τ' cv Ha C S cv' Hb C' S' g1 g2 g3 g4 g5 g6 g7 g8 g9 =>
    hpost p hp _ _ τ' g1 ⟨cv, Ha, C, S, rfl, g4, g2, g6, g8.1, g8.2⟩ ⟨cv', Hb, C', S', rfl, g5, g3, g7, g9.1, g9.2⟩
  have pos : ∀ u ∈ cuts, ∀ {τ' : List Int} {cl : mjL} {cs : List Value} {n : Nat} {vw : Nat → Nat → Option Value}, sxPtR (gT gh) n vw τ' u.2.1.1 cl cs → ((u.2.2.1.1.1 < τ'.length ∧ u.2.2.1.1.2.1 < τ'.length) ∧ 0 ≤ sxMv τ' u.2.2.1.1) ∧ ((u.2.2.1.2.1.1 < τ'.length ∧ u.2.2.1.2.1.2.1 < τ'.length) ∧ 0 ≤ sxMv τ' u.2.2.1.2.1) ∧ (u.2.2.1.2.2.1 < τ'.length ∧ u.2.2.1.2.2.2.1 < τ'.length) ∧ 0 ≤ sxMv τ' u.2.2.1.2.2 := by
    intro u hu τ' cl cs n vw hpt
    have hpos := (hcuts u hu).1
    unfold sxPos3 at hpos
    split at hpos
    · rename_i p1
      split at hpos
      · rename_i p2
        exact ⟨sxPos_ok p1 hpt, sxPos_ok p2 hpt, sxPos_ok hpos hpt⟩
      · cases hpos
    · cases hpos
  have hcut : ∀ x : Int × Int × Int, (0 ≤ x.1 ∧ 0 ≤ x.2.1 ∧ 0 ≤ x.2.2) → ∀ u ∈ cuts, ∀ (τ' : List Int) (cl : mjL) (cs : List Value) (Ha : mjH) (C S : Nat) (cl' : mjL) (cs' : List Value) (Hb : mjH) (C' S' : Nat), sxUp τ τ' → sxPtR (gT gh) K.2.1 (sxVw gh scr K.2.1 Ha) τ' u.2.1.1 cl cs → sxPtR (gT gh) K.2.1 (sxVw gh scr' K.2.1 Hb) τ' u.2.1.2 cl' cs' →
      sxHR K Ha → sxHR K Hb → sxKp c.2.2.2.1.1 (sxVw gh scr K.2.1 H) (sxVw gh scr K.2.1 Ha) → sxKp c.2.2.2.1.2 (sxVw gh scr' K.2.1 H') (sxVw gh scr' K.2.1 Hb) → (C ≤ u.2.2.2.1.1 ∧ S ≤ u.2.2.2.1.2) → (C' ≤ u.2.2.2.2.1 ∧ S' ≤ u.2.2.2.2.2) → sxMvs τ' u.2.2.1 = x →
      pxW scr scr' Y (.inl ([], d, c.1.1, u.1.1, cl, cs, Ha, C, S)) (.inl ([], d', c.1.2, u.1.2, cl', cs', Hb, C', S')) := by
    refine sxLex (fun x hx ih u hu τ' cl cs Ha C S cl' cs' Hb C' S' hup hpt hpt' hHa hHb hkp hkp' hC hC' hm => ?_)
    have hpos3 := pos u hu hpt
    have hHC : pxHC (pxJob K cts cts' pcts c cuts sp sp' ks) (some u.2.2.1) gh scr scr' (sxVw gh scr K.2.1 H) (sxVw gh scr' K.2.1 H') d d' τ τ' Y := fun u' hu' τ2 cl2 cs2 H2 C2 S2 cl2' cs2' H2' C2' S2' g1 g2 g2' g3 g3' g4 g4' g5 g6 g7 => by
      have hp := pos u' hu' g2
      refine ih (sxMvs τ2 u'.2.2.1) ⟨hp.1.2, hp.2.1.2, hp.2.2.2⟩ ?_ u' hu' τ2 cl2 cs2 H2 C2 S2 cl2' cs2' H2' C2' S2' g1 g2 g2' g3 g3' g4 g4' g5 g6 rfl
      rw [← hm]
      exact g7 _ rfl
    have hmi : ∀ b, some u.2.2.1 = some b → sxMin b τ'.length := fun b hb => by cases hb; exact ⟨hpos3.1.1, hpos3.2.1.1, hpos3.2.2.1⟩
    obtain ⟨f, hgo, hone⟩ := pxDl_ok (J := pxJob K cts cts' pcts c cuts sp sp' ks) (Φ := pxCuF (pxJob K cts cts' pcts c cuts sp sp' ks) u) (Q := pxQ1 (pxJob K cts cts' pcts c cuts sp sp' ks) gh scr scr' (sxVw gh scr K.2.1 H) (sxVw gh scr' K.2.1 H') d d' τ' Y) (fun hG => pxGoU_cj hG) (hcuts u hu).2
      (fun k f hf => pxGoK_ok (J := pxJob K cts cts' pcts c cuts sp sp' ks) (me := some u.2.2.1) (v0 := sxVw gh scr K.2.1 H) (v0' := sxVw gh scr' K.2.1 H') (d0 := d) (d0' := d') (scr := scr) (scr' := scr') rfl hGd hK hd hd' hV hV' hW hup hpre.1.1 hr hmi hHC hE hf k)
    exact pxGoU_ok (J := pxJob K cts cts' pcts c cuts sp sp' ks) (v0 := sxVw gh scr K.2.1 H) (v0' := sxVw gh scr' K.2.1 H') (d0 := d) (d0' := d') (τ := τ') hGd hK hd hV hGd hK hd' hV' hgo hone τ' _ _ sxUp.rf ⟨⟨rfl, rfl⟩, sxSt_rel hHa hpt hkp rfl hC.1 hC.2⟩ ⟨⟨rfl, rfl⟩, sxSt_rel hHb hpt' hkp' rfl hC'.1 hC'.2⟩
  have hHC : pxHC (pxJob K cts cts' pcts c cuts sp sp' ks) none gh scr scr' (sxVw gh scr K.2.1 H) (sxVw gh scr' K.2.1 H') d d' τ τ Y := fun u' hu' τ2 cl2 cs2 H2 C2 S2 cl2' cs2' H2' C2' S2' g1 g2 g2' g3 g3' g4 g4' g5 g6 g7 => by
    have hp := pos u' hu' g2
    exact hcut (sxMvs τ2 u'.2.2.1) ⟨hp.1.2, hp.2.1.2, hp.2.2.2⟩ u' hu' τ2 cl2 cs2 H2 C2 S2 cl2' cs2' H2' C2' S2' g1 g2 g2' g3 g3' g4 g4' g5 g6 rfl
  have hmi : ∀ b : sxMe, none = some b → sxMin b τ.length := fun b hb => by cases hb
  obtain ⟨f, hgo, hone⟩ := pxDl_ok (J := pxJob K cts cts' pcts c cuts sp sp' ks) (Φ := pxEnF (pxJob K cts cts' pcts c cuts sp sp' ks) c.2.2.1) (Q := pxQ1 (pxJob K cts cts' pcts c cuts sp sp' ks) gh scr scr' (sxVw gh scr K.2.1 H) (sxVw gh scr' K.2.1 H') d d' τ Y) (fun hG => hG _ _) h
    (fun k f hf => pxGoK_ok (J := pxJob K cts cts' pcts c cuts sp sp' ks) (me := none) (v0 := sxVw gh scr K.2.1 H) (v0' := sxVw gh scr' K.2.1 H') (d0 := d) (d0' := d') (scr := scr) (scr' := scr') rfl hGd hK hd hd' hV hV' hW (sxUp.rf : sxUp τ τ) hpre.1.1 hr hmi hHC hE hf k)
  exact hgo _ _ hone τ (.inl ([], d, c.1.1, 0, cl, [], H, 0, 0)) (.inl ([], d', c.1.2, 0, cl', [], H', 0, 0)) sxUp.rf ⟨⟨rfl, rfl⟩, sxSt_rel hH hpre sxKp.rf rfl (Nat.le_refl _) (Nat.le_refl _)⟩ ⟨⟨rfl, rfl⟩, sxSt_rel hH' hpre' sxKp.rf rfl (Nat.le_refl _) (Nat.le_refl _)⟩
/-- without a family -/
theorem pxMeV {cts cts' : List sxCt} {pcts : List pxCt} {c : pxCt} {cuts : List pxCu} {sp sp' : List (Nat × Nat × Nat)} {ks : List Nat × List Nat} (hcuts : ∀ u ∈ cuts, pxCuH (pxJob K cts cts' (pcts.map (fun c => (c, none))) c cuts sp sp' ks) u) (h : pxEnH (pxJob K cts cts' (pcts.map (fun c => (c, none))) c cuts sp sp' ks) c.2.2.1)
    (hGd : sxGd K gh) (hK : K.2.1 < mjScr) (hr : 0 < c.2.2.1.1.1) (hV : ∀ c' ∈ cts, sxCtV K gh c') (hV' : ∀ c' ∈ cts', sxCtV K gh c') (hW : ∀ c' ∈ pcts, pxCtV K gh c') : pxCtV K gh c :=
  pxMe_ok hcuts h hGd hK hr hV hV' (fun d d' τ n vw cl hp _ => ⟨hp, fun q hq => by
    obtain ⟨c', hc', rfl⟩ := List.mem_map.mp hq
    exact ⟨hW c' hc', trivial⟩⟩)
/-- what a member of a family is told of its family -/
def pxFh (K : sxKx) (gh : sxGh) (fam : List (pxCt × sxMe)) (l l' : Nat) (q : pxCt × sxMe) (d d' : Nat) (τ : List Int) : Prop := (q.1.2.1.1 ≤ d ∧ q.1.2.1.2 ≤ d') ∧ (sxMin q.2 τ.length ∧ (q.1.2.1.1 : Int) + (l : Int) * sxMv τ q.2.1 ≤ (d : Int) ∧ (q.1.2.1.2 : Int) + (l' : Int) * sxMv τ q.2.1 ≤ (d' : Int)) ∧ ∀ q' ∈ fam, pxCtW K gh q'.1 (pxOk (some ((q'.2, q.2), (l, l'))) q'.1 τ)
theorem pxFam_ok {fam : List (pxCt × sxMe)} {l l' : Nat} (hpos : ∀ q ∈ fam, sxPos3 q.1.2.2.1.1 q.2 = true) (h : ∀ q ∈ fam, ∀ P : Nat → Nat → List Int → Prop, (∀ (d d' : Nat) (τ : List Int) (n : Nat) (vw : Nat → Nat → Option Value) (cl : mjL), P d d' τ → sxPtR (gT gh) n vw τ q.1.2.2.1.1 cl [] → pxFh K gh fam l l' q d d' τ) → pxCtW K gh q.1 P) :
    ∀ q ∈ fam, pxCtW K gh q.1 (fun d d' τ => (q.1.2.1.1 : Int) + (l : Int) * sxMv τ q.2.1 ≤ (d : Int) ∧ (q.1.2.1.2 : Int) + (l' : Int) * sxMv τ q.2.1 ≤ (d' : Int)) := by
  have pos : ∀ q ∈ fam, ∀ {τ' : List Int} {cl : mjL} {cs : List Value} {n : Nat} {vw : Nat → Nat → Option Value}, sxPtR (gT gh) n vw τ' q.1.2.2.1.1 cl cs → sxMin q.2 τ'.length ∧ 0 ≤ (sxMvs τ' q.2).1 ∧ 0 ≤ (sxMvs τ' q.2).2.1 ∧ 0 ≤ (sxMvs τ' q.2).2.2 := by
    intro q hq τ' cl cs n vw hpt
    have hp := hpos q hq
    unfold sxPos3 at hp
    split at hp
    · rename_i p1
      split at hp
      · rename_i p2
        have a := sxPos_ok p1 hpt
        have b := sxPos_ok p2 hpt
        have c := sxPos_ok hp hpt
        exact ⟨⟨a.1, b.1, c.1⟩, a.2, b.2, c.2⟩
      · cases hp
    · cases hp
  have key : ∀ x : Int × Int × Int, (0 ≤ x.1 ∧ 0 ≤ x.2.1 ∧ 0 ≤ x.2.2) → ∀ q ∈ fam, pxCtW K gh q.1 (fun d d' τ => sxMvs τ q.2 = x ∧ (q.1.2.1.1 : Int) + (l : Int) * sxMv τ q.2.1 ≤ (d : Int) ∧ (q.1.2.1.2 : Int) + (l' : Int) * sxMv τ q.2.1 ≤ (d' : Int)) := by
    refine sxLex (fun x hx ih q hq => h q hq _ (fun d d' τ n vw cl hP hpt => ?_))
    obtain ⟨e, f1, f2⟩ := hP
    obtain ⟨g1, g2, g3, g4⟩ := pos q hq hpt
    have n1 : (0 : Int) ≤ (l : Int) * sxMv τ q.2.1 := Int.mul_nonneg (Int.natCast_nonneg _) g2
    have n2 : (0 : Int) ≤ (l' : Int) * sxMv τ q.2.1 := Int.mul_nonneg (Int.natCast_nonneg _) g2
    refine ⟨⟨by omega, by omega⟩, ⟨g1, f1, f2⟩, fun q' hq' => ?_⟩
    intro scr scr' Y d2 d2' τ2 cl2 cl2' H H' hP2 hH hH' hp hp' hpost
    obtain ⟨k1, k2, k3⟩ := hP2
    obtain ⟨-, j2, j3, j4⟩ := pos q' hq' hp
    rw [e] at k1
    exact ih (sxMvs τ2 q'.2) ⟨j2, j3, j4⟩ k1 q' hq' scr scr' Y d2 d2' τ2 cl2 cl2' H H' ⟨rfl, k2, k3⟩ hH hH' hp hp' hpost
  intro q hq scr scr' Y d d' τ cl cl' H H' hP hH hH' hp hp' hpost
  obtain ⟨-, j2, j3, j4⟩ := pos q hq hp
  exact key (sxMvs τ q.2) ⟨j2, j3, j4⟩ q hq scr scr' Y d d' τ cl cl' H H' ⟨rfl, hP.1, hP.2⟩ hH hH' hp hp' hpost
/-- a member by itself: frames for the highest -/
def pxFz (c : pxCt) (n n' : Nat) : pxCt := (c.1, (n, n'), c.2.2)
def pxFu (p : sxPt) (m : sxM1) (x l n n0 l' n' n0' : Nat) : Bool := match Nat.blt m.1 p.1 with
  | false => false
  | true => match Nat.blt m.2.1 p.1 with
    | false => false
    | true => match sxLe (p.1, p.2.1, p.2.2.1, [], []) (m.1, 0) (m.2.1, 0) (Int.ofNat x - m.2.2) with
      | false => false
      | true => match Nat.ble (n0 + l * x) n with
        | false => false
        | true => Nat.ble (n0' + l' * x) n'
theorem pxFz_ok {c : pxCt} {m : sxMe} {l l' x n n' : Nat} (hc : pxCtW K gh c (fun d d' τ => (c.2.1.1 : Int) + (l : Int) * sxMv τ m.1 ≤ (d : Int) ∧ (c.2.1.2 : Int) + (l' : Int) * sxMv τ m.1 ≤ (d' : Int))) (h : pxFu c.2.2.1.1 m.1 x l n c.2.1.1 l' n' c.2.1.2 = true) : pxCtV K gh (pxFz c n n') := by
  intro scr scr' Y d d' τ cl cl' H H' hd hH hH' hp hp' hpost
  refine hc scr scr' Y d d' τ cl cl' H H' ?_ hH hH' hp hp' hpost
  obtain ⟨hd, hd'⟩ := hd
  have hd : n ≤ d := hd
  have hd' : n' ≤ d' := hd'
  have hp : sxPtR (gT gh) K.2.1 (sxVw gh scr K.2.1 H) τ c.2.2.1.1 cl [] := hp
  unfold pxFu at h
  split at h
  · cases h
  · rename_i q1
    have q1 := bltOk q1
    split at h
    · cases h
    · rename_i q2
      have q2 := bltOk q2
      split at h
      · cases h
      · rename_i hle
        split at h
        · cases h
        · rename_i hn
          have hn := Nat.le_of_ble_eq_true hn
          have hn' := Nat.le_of_ble_eq_true h
          have l1 : m.1.1 < τ.length := by rw [hp.1.1]; exact q1
          have l2 : m.1.2.1 < τ.length := by rw [hp.1.1]; exact q2
          have hB : sxBR (gT gh) τ (c.2.2.1.1.1, c.2.2.1.1.2.1, c.2.2.1.1.2.2.1, [], []) := ⟨hp.1, hp.2.1, hp.2.2.1, (fun q hq => by cases hq), fun q hq => by cases hq⟩
          have hx := sxLe_ok hB hle ⟨_, List.getElem?_eq_getElem l1, rfl⟩ ⟨_, List.getElem?_eq_getElem l2, rfl⟩
          have hm : sxMv τ m.1 ≤ (x : Int) := by
            unfold sxMv
            rw [List.getD_eq_getElem?_getD, List.getD_eq_getElem?_getD, List.getElem?_eq_getElem l1, List.getElem?_eq_getElem l2]
            simp only [Option.getD_some]
            have : (Int.ofNat x : Int) = (x : Int) := rfl
            omega
          have k1 : (l : Int) * sxMv τ m.1 ≤ (l : Int) * (x : Int) := Int.mul_le_mul_of_nonneg_left hm (Int.natCast_nonneg _)
          have k2 : (l' : Int) * sxMv τ m.1 ≤ (l' : Int) * (x : Int) := Int.mul_le_mul_of_nonneg_left hm (Int.natCast_nonneg _)
          have z1 : ((l * x : Nat) : Int) = (l : Int) * (x : Int) := by rw [Int.natCast_mul]
          have z2 : ((l' * x : Nat) : Int) = (l' : Int) * (x : Int) := by rw [Int.natCast_mul]
          exact ⟨by omega, by omega⟩
end PX9

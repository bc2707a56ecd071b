/-! PC: texts: the reference's letters; words -/
section PCTY
variable {m : Nat} {L : mjL} {H H' H0 H1 : mjH} {r : Option Value ⊕ Nat} {tx : Nat → Nat} {n : Nat}
theorem ztEnd_un {s e e' : Nat} (h : ztEnd tx n s e) (h' : ztEnd tx n s e') : e = e' := by
  obtain ⟨k, v, h⟩ := h
  obtain ⟨k', v', h'⟩ := h'
  have no : ∀ c : Int, ztSm c → ztDg c → False := fun c h1 h2 => by
    have := h1.1
    have := h2.2
    omega
  rcases h with ⟨a1, -, -, a2⟩ | ⟨a1, a2, -, -, a3⟩ | ⟨a1, a2, -, -, a3⟩ | ⟨a1, a2, a3, -, -, a4⟩
  · rcases h' with ⟨b1, -, -, b2⟩ | ⟨b1, -⟩ | ⟨b1, -⟩ | ⟨b1, -⟩ <;> omega
  · rcases h' with ⟨b1, -, -, b2⟩ | ⟨b1, b2, -, -, b3⟩ | ⟨b1, b2, -, -, b3⟩ | ⟨b1, b2, b3, -, -, b4⟩
    · omega
    · exact ztRun_un a3 b3
    · exact (no _ a2 b2).elim
    · exact absurd a2 b2
  · rcases h' with ⟨b1, -, -, b2⟩ | ⟨b1, b2, -, -, b3⟩ | ⟨b1, b2, -, -, b3⟩ | ⟨b1, b2, b3, -, -, b4⟩
    · omega
    · exact (no _ b2 a2).elim
    · exact ztRun_un a3 b3
    · exact absurd a2 b3
  · rcases h' with ⟨b1, -, -, b2⟩ | ⟨b1, b2, -, -, b3⟩ | ⟨b1, b2, -, -, b3⟩ | ⟨b1, b2, b3, -, -, b4⟩
    · omega
    · exact absurd b2 a2
    · exact absurd b2 a3
    · omega
/-- the reference's text -/
def tcR (H : mjH) (tx : Nat → Nat) (n : Nat) : Prop := (n ≤ 600 ∧ gI H 78 2 = Int32.ofInt (n : Int)) ∧ ∀ i, i < n → tx i < 256 ∧ gI H 79 i = Int32.ofInt (tx i : Int)
theorem tcR.cg (h : tcR H tx n) (hs : ∀ a b, (a = 78 ∧ b = 2) ∨ a = 79 → sxEl H1 a b = sxEl H a b) : tcR H1 tx n := ⟨⟨h.1.1, (gI_cgE (hs 78 2 (Or.inl ⟨rfl, rfl⟩))).trans h.1.2⟩, fun i hi => ⟨(h.2 i hi).1, (gI_cgE (hs 79 i (Or.inr rfl))).trans (h.2 i hi).2⟩⟩
/-- nothing but where the reference stands has changed -/
def rFr (H H' : mjH) : Prop := ∀ a b, ¬ (a = 78 ∧ b = 4) → sxEl H' a b = sxEl H a b
theorem rFr.rf : rFr H H := fun _ _ _ => rfl
theorem rFr.tr {H2 : mjH} (h1 : rFr H H1) (h2 : rFr H1 H2) : rFr H H2 := fun a b h => (h2 a b h).trans (h1 a b h)
theorem rFr.tk (h : rFr H H1) (hc : tcR H tx n) : tcR H1 tx n := hc.cg (fun a b q => h a b (by omega))
theorem py_by {p : Nat} (hT : HT H) (hc : tcR H tx n) (hp : p ≤ 2000000) (h : Pn none m 200 0 [(0, .ref 78), (1, .int (Int32.ofInt (p : Int)))] [] H r H') : r = .inl (some (.int (Int32.ofInt (ztB tx n p)))) ∧ H' = H := by
  obtain ⟨⟨c1, c2⟩, c3⟩ := hc
  have hb := y_by hT ⟨rfl, rfl, trivial⟩ h
  rw [c2, zz_lt, zz_cn (n := p)] at hb
  rcases hb with ⟨c, -, e⟩ | ⟨c, e⟩
  · have hp : p < n := by omega
    rw [ztB_lt hp, ← (c3 p hp).2]
    exact e
  · rw [ztB_ge (by omega)]
    exact e
theorem py_sm {c : Int} (hc : -1 ≤ c ∧ c < 256) (hT : HT H) (h : Pn none m 204 0 [(0, .int (Int32.ofInt c))] [] H r H') : ((ztSm c ∧ r = .inl (some (.int (Int32.ofInt 1)))) ∨ (¬ ztSm c ∧ r = .inl (some (.int (Int32.ofInt 0))))) ∧ H' = H := by
  have hb := y_sm hT ⟨rfl, trivial⟩ h
  rw [zz_lt, zz_lt] at hb
  rcases hb with ⟨g, e1, e2⟩ | ⟨g, ⟨g2, e1, e2⟩ | ⟨g2, e1, e2⟩⟩
  · exact ⟨Or.inr ⟨fun z => by have := z.1; omega, e1⟩, e2⟩
  · exact ⟨Or.inr ⟨fun z => by have := z.2; omega, e1⟩, e2⟩
  · exact ⟨Or.inl ⟨⟨by omega, by omega⟩, e1⟩, e2⟩
theorem py_dg {c : Int} (hc : -1 ≤ c ∧ c < 256) (hT : HT H) (h : Pn none m 203 0 [(0, .int (Int32.ofInt c))] [] H r H') : ((ztDg c ∧ r = .inl (some (.int (Int32.ofInt 1)))) ∨ (¬ ztDg c ∧ r = .inl (some (.int (Int32.ofInt 0))))) ∧ H' = H := by
  have hb := y_dig hT ⟨rfl, trivial⟩ h
  rw [zz_lt, zz_lt] at hb
  rcases hb with ⟨g, e1, e2⟩ | ⟨g, ⟨g2, e1, e2⟩ | ⟨g2, e1, e2⟩⟩
  · exact ⟨Or.inr ⟨fun z => by have := z.1; omega, e1⟩, e2⟩
  · exact ⟨Or.inr ⟨fun z => by have := z.2; omega, e1⟩, e2⟩
  · exact ⟨Or.inl ⟨⟨by omega, by omega⟩, e1⟩, e2⟩
theorem ztB_rg (hc : tcR H tx n) (p : Nat) : -1 ≤ ztB tx n p ∧ ztB tx n p < 256 := by
  rcases Nat.lt_or_ge p n with g | g
  · rw [ztB_lt g]
    have := (hc.2 p g).1
    omega
  · rw [ztB_ge g]
    decide
/-- over blanks -/
theorem py_bl {p : Nat} : ∀ (m a : Nat) (L : mjL) (H : mjH), HT H → tcR H tx n → rFr H0 H → gI H 78 4 = Int32.ofInt (a : Int) → p ≤ a → a ≤ n → (∀ i, p ≤ i → i < a → ztBl (ztB tx n i)) → LG L [(0, .ref 78)] → Pn none m 201 0 L [] H r H' → ∃ s : Nat, ztRun ztBl tx n p s ∧ s ≤ n ∧ r = .inl none ∧ HT H' ∧ rFr H0 H' ∧ gI H' 78 4 = Int32.ofInt (s : Int)
  | 0, _, _, _, _, _, _, _, _, _, _, _, h => Pn0 h
  | m + 1, a, L, H, hT, hc, hF, h4, hpa, han, hr, hL, h => by
    have hn := hc.1.1
    obtain ⟨L', hL', r2, H2, q, k⟩ := y_bl0 hT hL h
    rw [h4] at q
    obtain ⟨d1, d2⟩ := py_by hT hc (by omega) q
    subst d1
    rw [d2] at k
    have hb := y_bl1 hT hL' (pn_ret k)
    have hrg := ztB_rg hc a
    rw [zz_eq, h4, zz_add] at hb
    rcases hb with ⟨c, e1, e2⟩ | ⟨c, L2, hL2, h2⟩
    · rw [e2]
      exact ⟨a, ⟨hpa, hr, c⟩, han, e1, hT, hF, h4⟩
    · have c := Classical.not_not.mp c
      have hlt : a < n := by
        rcases Nat.lt_or_ge a n with g | g
        · exact g
        · rw [ztB_ge g] at c
          exact absurd c (by decide)
      have hs1 : Int32.ofInt ((a : Int) + 1) = Int32.ofInt ((a + 1 : Nat) : Int) := rfl
      rw [hs1] at h2
      refine py_bl m (a + 1) L2 _ (HT.pFI hT kF_78_4_9_false) (hc.cg (fun x y q => sxEl_ne (by omega))) (fun x y q => (sxEl_ne (by omega)).trans (hF x y q)) (gI_fat hT kF_78_4_9_false) (by omega) hlt (fun i h1 h3 => ?_) hL2 h2
      by_cases q : i = a
      · rw [q]
        exact c
      · exact hr i h1 (by omega)
theorem py_blanks {p : Nat} (hT : HT H) (hc : tcR H tx n) (h4 : gI H 78 4 = Int32.ofInt (p : Int)) (hp : p ≤ n) (h : Pn none m 201 0 [(0, .ref 78)] [] H r H') : ∃ s : Nat, ztRun ztBl tx n p s ∧ s ≤ n ∧ r = .inl none ∧ HT H' ∧ rFr H H' ∧ gI H' 78 4 = Int32.ofInt (s : Int) :=
  py_bl m p _ H hT hc rFr.rf h4 (Nat.le_refl _) hp (fun i h1 h3 => absurd h1 (by omega)) ⟨rfl, trivial⟩ h
/-- over a word -/
theorem py_skL {p : Nat} : ∀ (m a : Nat) (L : mjL) (H : mjH), HT H → tcR H tx n → rFr H0 H → gI H 78 4 = Int32.ofInt (a : Int) → p ≤ a → a ≤ n → (∀ i, p ≤ i → i < a → ztSm (ztB tx n i)) → LG L [(0, .ref 78)] → Pn none m 209 0 L [] H r H' → ∃ s : Nat, ztRun ztSm tx n p s ∧ s ≤ n ∧ r = .inl none ∧ HT H' ∧ rFr H0 H' ∧ gI H' 78 4 = Int32.ofInt (s : Int)
  | 0, _, _, _, _, _, _, _, _, _, _, _, h => Pn0 h
  | m + 1, a, L, H, hT, hc, hF, h4, hpa, han, hr, hL, h => by
    have hn := hc.1.1
    obtain ⟨L', hL', r2, H2, q, k⟩ := y_skL hT hL h
    rw [h4] at q
    obtain ⟨d1, d2⟩ := py_by hT hc (by omega) q
    subst d1
    rw [d2] at k
    obtain ⟨L2, hL2, r3, H3, q3, k3⟩ := y_sk1 hT hL' (pn_ret k)
    obtain ⟨d3, d4⟩ := py_sm (ztB_rg hc a) hT q3
    rw [d4] at k3
    rcases d3 with ⟨c, d3⟩ | ⟨c, d3⟩
    · subst d3
      have hb := y_sk2 hT hL2 (pn_ret k3)
      rw [h4, zz_add] at hb
      rcases hb with ⟨z, -⟩ | ⟨-, L3, hL3, h2⟩
      · exact absurd z (by decide)
      have hlt : a < n := by
        rcases Nat.lt_or_ge a n with g | g
        · exact g
        · rw [ztB_ge g] at c
          exact absurd c.1 (by decide)
      have hs1 : Int32.ofInt ((a : Int) + 1) = Int32.ofInt ((a + 1 : Nat) : Int) := rfl
      rw [hs1] at h2
      refine py_skL m (a + 1) L3 _ (HT.pFI hT kF_78_4_9_false) (hc.cg (fun x y q => sxEl_ne (by omega))) (fun x y q => (sxEl_ne (by omega)).trans (hF x y q)) (gI_fat hT kF_78_4_9_false) (by omega) hlt (fun i h1 h3 => ?_) hL3 h2
      by_cases q : i = a
      · rw [q]
        exact c
      · exact hr i h1 (by omega)
    · subst d3
      have hb := y_sk2 hT hL2 (pn_ret k3)
      rcases hb with ⟨-, e1, e2⟩ | ⟨z, -⟩
      · rw [e2]
        exact ⟨a, ⟨hpa, hr, c⟩, han, e1, hT, hF, h4⟩
      · exact absurd rfl z
theorem py_skip {p : Nat} (hT : HT H) (hc : tcR H tx n) (h4 : gI H 78 4 = Int32.ofInt (p : Int)) (hp : p ≤ n) (h : Pn none m 209 0 [(0, .ref 78)] [] H r H') : ∃ s : Nat, ztRun ztSm tx n p s ∧ s ≤ n ∧ r = .inl none ∧ HT H' ∧ rFr H H' ∧ gI H' 78 4 = Int32.ofInt (s : Int) :=
  py_skL m p _ H hT hc rFr.rf h4 (Nat.le_refl _) hp (fun i h1 h3 => absurd h1 (by omega)) ⟨rfl, trivial⟩ h
/-- a word as a number, by 27s -/
def wvF (tx : Nat → Nat) (s : Nat) : Nat → Int
  | 0 => 0
  | c + 1 => 27 * wvF tx s c + ((tx (s + c) : Int) - 96)
theorem wvF_rg {s : Nat} : ∀ {c : Nat}, c ≤ 6 → (∀ i, i < c → ztSm (tx (s + i) : Int)) → 0 ≤ wvF tx s c ∧ wvF tx s c < 27 ^ c ∧ (0 < c → 0 < wvF tx s c)
  | 0, _, _ => ⟨Int.le_refl _, by show (0 : Int) < 1; decide, fun h => absurd h (Nat.lt_irrefl 0)⟩
  | c + 1, hc, h => by
    obtain ⟨h1, h2, -⟩ := wvF_rg (c := c) (by omega) (fun i hi => h i (by omega))
    obtain ⟨h3, h4⟩ := h c (by omega)
    have e : wvF tx s (c + 1) = 27 * wvF tx s c + ((tx (s + c) : Int) - 96) := rfl
    rw [e, Int.pow_succ]
    refine ⟨by omega, by omega, fun _ => by omega⟩
/-- this word stands there, and no longer one -/
def ztWd (tx : Nat → Nat) (n s : Nat) (ws : List Nat) : Prop := ztRun ztSm tx n s (s + ws.length) ∧ ∀ (i c : Nat), ws[i]? = some c → tx (s + i) = c
/-- a word that is a number, by 27s -/
def wdC : List Nat → Int := fun ws => ws.foldl (fun (v : Int) (c : Nat) => 27 * v + ((c : Int) - 96)) 0
theorem revInd {P : List Nat → Prop} (h0 : P []) (h1 : ∀ (l : List Nat) (x : Nat), P l → P (l ++ [x])) (l : List Nat) : P l := by
  have h : ∀ l : List Nat, P l.reverse := by
    intro l
    induction l with
    | nil => exact h0
    | cons x l ih =>
      rw [List.reverse_cons]
      exact h1 _ _ ih
  have h2 := h l.reverse
  rw [List.reverse_reverse] at h2
  exact h2
theorem wdC_ap (l : List Nat) (x : Nat) : wdC (l ++ [x]) = 27 * wdC l + ((x : Int) - 96) := by
  unfold wdC
  rw [List.foldl_append]
  rfl
theorem wv_eq {s : Nat} : ∀ (c : Nat) (ws : List Nat), c ≤ 6 → (∀ i, i < c → ztSm (tx (s + i) : Int)) → (∀ x, x ∈ ws → ztSm (x : Int)) → wvF tx s c = wdC ws → c = ws.length ∧ ∀ (i d : Nat), ws[i]? = some d → tx (s + i) = d := by
  intro c
  induction c with
  | zero =>
    intro ws _ _ hw e
    rcases List.eq_nil_or_concat ws with g | ⟨l, x, g⟩
    · subst g
      exact ⟨rfl, fun i d h => by simp at h⟩
    · exfalso
      rw [List.concat_eq_append] at g
      have hx := hw x (by rw [g]; exact List.mem_append_right _ List.mem_cons_self)
      have h0 : ∀ l : List Nat, (∀ x, x ∈ l → ztSm (x : Int)) → 0 ≤ wdC l := by
        intro l
        induction l using revInd with
        | h0 => exact fun _ => Int.le_refl _
        | h1 l y ih =>
          intro h
          rw [wdC_ap]
          have := ih (fun z hz => h z (List.mem_append_left _ hz))
          have := (h y (List.mem_append_right _ List.mem_cons_self)).1
          omega
      have h1 := h0 l (fun z hz => hw z (by rw [g]; exact List.mem_append_left _ hz))
      rw [g, wdC_ap] at e
      have e : (0 : Int) = 27 * wdC l + ((x : Int) - 96) := e
      have := hx.1
      omega
  | succ c ih =>
    intro ws hc ht hw e
    obtain ⟨r1, r2, r3⟩ := wvF_rg hc ht
    have e0 : wvF tx s (c + 1) = 27 * wvF tx s c + ((tx (s + c) : Int) - 96) := rfl
    have hc1 := ht c (by omega)
    rcases List.eq_nil_or_concat ws with g | ⟨l, x, g⟩
    · exfalso
      rw [g] at e
      have e : wvF tx s (c + 1) = 0 := e
      have := r3 (by omega)
      omega
    · rw [List.concat_eq_append] at g
      have hx := hw x (by rw [g]; exact List.mem_append_right _ List.mem_cons_self)
      rw [g, wdC_ap, e0] at e
      have a1 := hc1.1
      have a2 := hc1.2
      have a3 := hx.1
      have a4 := hx.2
      have ex : (tx (s + c) : Int) = (x : Int) := by omega
      have el : wvF tx s c = wdC l := by omega
      obtain ⟨k1, k2⟩ := ih l (by omega) (fun i hi => ht i (by omega)) (fun z hz => hw z (by rw [g]; exact List.mem_append_left _ hz)) el
      rw [g]
      refine ⟨by rw [List.length_append, ← k1]; rfl, fun i d hd => ?_⟩
      rcases Nat.lt_or_ge i l.length with q | q
      · rw [List.getElem?_append_left q] at hd
        exact k2 i d hd
      · rw [List.getElem?_append_right q] at hd
        have h0 : i - l.length = 0 := by
          have := (List.getElem?_eq_some_iff.mp hd).1
          simp only [List.length_singleton] at this
          omega
        rw [h0] at hd
        cases hd
        rw [show i = c by omega]
        omega
theorem wv_of {s : Nat} : ∀ (ws : List Nat), (∀ (i d : Nat), ws[i]? = some d → tx (s + i) = d) → wvF tx s ws.length = wdC ws := by
  intro ws
  induction ws using revInd with
  | h0 => exact fun _ => rfl
  | h1 l x ih =>
    intro h
    rw [wdC_ap, List.length_append]
    show 27 * wvF tx s l.length + ((tx (s + l.length) : Int) - 96) = _
    rw [ih (fun i d hd => h i d (by rw [List.getElem?_append_left (List.getElem?_eq_some_iff.mp hd).1]; exact hd)), h l.length x (by rw [List.getElem?_append_right (Nat.le_refl _), Nat.sub_self]; rfl)]
/-- the word that stands there, as a number: the reference -/
theorem py_whL {s e : Nat} (hT : HT H) (hc : tcR H tx n) (h4 : gI H 78 4 = Int32.ofInt (s : Int)) (hs : s ≤ n) (he : ztRun ztSm tx n s e) : ∀ (m i : Nat) (L : mjL), s + i ≤ e → LG L [(0, .ref 78), (1, .int (Int32.ofInt (wvF tx s (if i < 6 then i else 6)))), (2, .int (Int32.ofInt (i : Int)))] → Pn none m 206 8 L [] H r H' → r = .inl (some (.int (Int32.ofInt (if 6 < e - s then -1 else wvF tx s (e - s))))) ∧ H' = H
  | 0, _, _, _, _, h => Pn0 h
  | m + 1, i, L, hi, hL, h => by
    have hn := hc.1.1
    have hen := ztRun_le (P := ztSm) (fun z => absurd z.1 (by decide)) he hs
    obtain ⟨L', hL', r2, H2, q, k⟩ := y_whL hT hL h
    rw [h4, zz_add] at q
    have q : Pn none m 200 0 [(0, .ref 78), (1, .int (Int32.ofInt ((s + i : Nat) : Int)))] [] H r2 H2 := q
    obtain ⟨d1, d2⟩ := py_by hT hc (by omega) q
    subst d1
    rw [d2] at k
    obtain ⟨L2, hL2, r3, H3, q3, k3⟩ := y_wh2 hT hL' (pn_ret k)
    obtain ⟨d3, d4⟩ := py_sm (ztB_rg hc (s + i)) hT q3
    rw [d4] at k3
    have hlet : ∀ j, j < e - s → ztSm (tx (s + j) : Int) := fun j hj => by
      have := he.2.1 (s + j) (by omega) (by omega)
      rw [ztB_lt (by omega)] at this
      exact this
    rcases d3 with ⟨c, d3⟩ | ⟨c, d3⟩
    · subst d3
      have hie : s + i < e := by
        rcases Nat.lt_or_ge (s + i) e with g | g
        · exact g
        · rw [show s + i = e by omega] at c
          exact absurd c he.2.2
      have hs1 : Int32.ofInt (i : Int) + Int32.ofInt 1 = Int32.ofInt ((i + 1 : Nat) : Int) := zz_add _ _
      have hb := y_wh3 hT hL2 (pn_ret k3)
      rw [zz_le, zz_le, hs1, h4, zz_add] at hb
      rcases hb with ⟨z, -⟩ | ⟨-, ⟨g, L3, hL3, h3⟩ | ⟨g, L3, hL3, r4, H4, q4, k4⟩⟩
      · exact absurd z (by decide)
      · rw [if_neg (by omega)] at hL3
        refine py_whL hT hc h4 hs he m (i + 1) L3 (by omega) ?_ h3
        rw [if_neg (by omega)]
        exact hL3
      · have q4 : Pn none m 200 0 [(0, .ref 78), (1, .int (Int32.ofInt ((s + i : Nat) : Int)))] [] H r4 H4 := q4
        obtain ⟨d5, d6⟩ := py_by hT hc (by omega) q4
        subst d5
        rw [d6] at k4
        obtain ⟨L4, hL4, h5⟩ := y_wh4 hT hL3 (pn_ret k4)
        rw [hs1, if_pos (by omega), zz_mul, zz_add, zz_sub, zz_add, ztB_lt (by omega)] at hL4
        refine py_whL hT hc h4 hs he m (i + 1) L4 (by omega) ?_ h5
        have ev : (27 : Int) * wvF tx s i + (tx (s + i) : Int) - 97 + 1 = wvF tx s (if i + 1 < 6 then i + 1 else 6) := by
          have : (if i + 1 < 6 then i + 1 else 6) = i + 1 := by
            by_cases z : i + 1 < 6
            · exact if_pos z
            · rw [if_neg z]
              omega
          rw [this]
          show _ = 27 * wvF tx s i + ((tx (s + i) : Int) - 96)
          omega
        rw [← ev]
        exact hL4
    · subst d3
      have hie : s + i = e := ztRun_un ⟨Nat.le_add_right _ _, fun j h1 h2 => he.2.1 j h1 (by omega), c⟩ he
      have hb := y_wh3 hT hL2 (pn_ret k3)
      rw [zz_le, zz_le] at hb
      rw [show e - s = i by omega]
      rcases hb with ⟨-, ⟨g, e1, e2⟩ | ⟨g, e1, e2⟩⟩ | ⟨z, -⟩
      · rw [if_neg (by omega)]
        have : (if i < 6 then i else 6) = i := by
          by_cases z : i < 6
          · exact if_pos z
          · rw [if_neg z]
            omega
        rw [this] at e1
        exact ⟨e1, e2⟩
      · rw [if_pos (by omega)]
        exact ⟨e1, e2⟩
      · exact absurd rfl z
end PCTY

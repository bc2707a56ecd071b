/-! PC: texts: what stands where; the class's TAPE -/
section PCTX
variable {m : Nat} {L : mjL} {H H' H0 H1 : mjH} {r : Option Value ⊕ Nat} {tx : Nat → Nat} {n : Nat}
/-- what stands at a place; -1 behind the text -/
def ztB (tx : Nat → Nat) (n i : Nat) : Int := if i < n then (tx i : Int) else -1
theorem ztB_lt {i : Nat} (h : i < n) : ztB tx n i = (tx i : Int) := if_pos h
theorem ztB_ge {i : Nat} (h : n ≤ i) : ztB tx n i = -1 := if_neg (by omega)
def ztSm (c : Int) : Prop := 97 ≤ c ∧ c ≤ 122
def ztDg (c : Int) : Prop := 48 ≤ c ∧ c ≤ 57
def ztBl (c : Int) : Prop := c = 32
/-- from s to e all is so, at e no more -/
def ztRun (P : Int → Prop) (tx : Nat → Nat) (n s e : Nat) : Prop := s ≤ e ∧ (∀ i, s ≤ i → i < e → P (ztB tx n i)) ∧ ¬ P (ztB tx n e)
theorem ztRun_un {P : Int → Prop} {s e e' : Nat} (h : ztRun P tx n s e) (h' : ztRun P tx n s e') : e = e' := by
  rcases Nat.lt_trichotomy e e' with g | g | g
  · exact absurd (h'.2.1 e h.1 g) h.2.2
  · exact g
  · exact absurd (h.2.1 e' h'.1 g) h'.2.2
theorem ztRun_le {P : Int → Prop} {s e : Nat} (hP : ¬ P (-1)) (h : ztRun P tx n s e) (hs : s ≤ n) : e ≤ n := by
  rcases Nat.lt_or_ge n e with g | g
  · have := h.2.1 n hs g
    rw [ztB_ge (Nat.le_refl n)] at this
    exact absurd this hP
  · exact g
theorem ztRun_rf {P : Int → Prop} {s : Nat} (h : ¬ P (ztB tx n s)) : ztRun P tx n s s := ⟨Nat.le_refl _, fun i h1 h2 => absurd h1 (by omega), h⟩
/-- a byte with its sign -/
def sb (t : Nat) : Int := if t < 128 then (t : Int) else (t : Int) - 256
theorem sb_rg {t : Nat} (h : t < 256) : -128 ≤ sb t ∧ sb t < 128 := by
  unfold sb
  split <;> omega
theorem sb_iff {t : Nat} {lo hi : Int} (h : t < 256) (h0 : 0 ≤ lo) (h1 : hi < 128) : (lo ≤ sb t ∧ sb t ≤ hi) ↔ (lo ≤ (t : Int) ∧ (t : Int) ≤ hi) := by
  unfold sb
  split <;> omega
theorem sb_255 : ∀ (t : Nat), t < 256 → (Int32.ofInt (sb t) &&& Int32.ofInt 255) = Int32.ofInt (t : Int) := by decide +kernel
theorem sb_32 {t : Nat} (h : t < 256) : sb t = 32 ↔ (t : Int) = 32 := by
  unfold sb
  split <;> omega
/-- digits as a number -/
def nvF (tx : Nat → Nat) (s : Nat) : Nat → Int
  | 0 => 0
  | c + 1 => 10 * nvF tx s c + ((tx (s + c) : Int) - 48)
def imn (v M : Int) : Int := if M < v then M else v
theorem nvF_0 {s : Nat} : ∀ {c : Nat}, (∀ i, i < c → 48 ≤ (tx (s + i) : Int)) → 0 ≤ nvF tx s c
  | 0, _ => Int.le_refl _
  | c + 1, h => by
    have h1 := nvF_0 (c := c) (fun i hi => h i (by omega))
    have h2 := h c (by omega)
    show 0 ≤ 10 * nvF tx s c + ((tx (s + c) : Int) - 48)
    omega
theorem imn_step {v d M : Int} (hv : 0 ≤ v) (hd : 0 ≤ d) (hM : 0 ≤ M) : imn (10 * imn v M + d) M = imn (10 * v + d) M := by
  unfold imn
  by_cases g : M < v
  · rw [if_pos g, if_pos (show M < 10 * v + d by omega)]
    split
    · rfl
    · omega
  · rw [if_neg g]
theorem imn_rg {v M : Int} (hv : 0 ≤ v) (hM : 0 ≤ M) : 0 ≤ imn v M ∧ imn v M ≤ M := by
  unfold imn
  split <;> omega
theorem imn_le {v M u : Int} (hu : u < M) : imn v M ≤ u ↔ v ≤ u := by
  unfold imn
  split <;> omega
/-- the class's TAPE holds this text -/
def tcC (H : mjH) (tx : Nat → Nat) (n : Nat) : Prop := n ≤ 600 ∧ ∀ i, i < n → tx i < 256 ∧ gI H 2 i = Int32.ofInt (sb (tx i))
theorem tcC.cg (h : tcC H tx n) (hs : ∀ a b, a = 2 → sxEl H1 a b = sxEl H a b) : tcC H1 tx n := ⟨h.1, fun i hi => ⟨(h.2 i hi).1, (gI_cgE (hs 2 i rfl)).trans (h.2 i hi).2⟩⟩
/-- what was taken last, by where it begins: its kind, its number, where it ends -/
def ztok (tx : Nat → Nat) (n s : Nat) (k v : Int) (e : Nat) : Prop := (n ≤ s ∧ k = 0 ∧ v = 0 ∧ e = s) ∨ (s < n ∧ ztSm (tx s) ∧ k = 1 ∧ v = (tx s : Int) ∧ ztRun ztSm tx n s e) ∨ (s < n ∧ ztDg (tx s) ∧ k = 2 ∧ v = imn (nvF tx s (e - s)) 1000000 ∧ ztRun ztDg tx n s e) ∨ (s < n ∧ ¬ ztSm (tx s) ∧ ¬ ztDg (tx s) ∧ k = 3 ∧ v = (tx s : Int) ∧ e = s + 1)
/-- what was taken last begins at s -/
def cAt (H : mjH) (tx : Nat → Nat) (n s : Nat) : Prop := gI H 1 2 = Int32.ofInt (n : Int) ∧ ztB tx n s ≠ 32 ∧ s ≤ n ∧ gI H 1 4 = Int32.ofInt (s : Int) ∧ ∃ (k v : Int) (e : Nat), ztok tx n s k v e ∧ gI H 1 3 = Int32.ofInt k ∧ gI H 1 6 = Int32.ofInt v ∧ gI H 1 5 = Int32.ofInt (e : Int) ∧ e ≤ n
def sFr (H H' : mjH) : Prop := ∀ a b, ¬ (a = 1 ∧ 3 ≤ b ∧ b ≤ 6) → sxEl H' a b = sxEl H a b
theorem px_L {s : Nat} (hT : HT H) (hc : tcC H tx n) (h2 : gI H 1 2 = Int32.ofInt (n : Int)) : ∀ (m a : Nat) (L : mjL), s ≤ a → a ≤ n → (∀ i, s ≤ i → i < a → ztSm (ztB tx n i)) → LG L [(0, .ref 1), (1, .int (Int32.ofInt (a : Int)))] → Pn none m 83 109 L [] H r H' → ∃ e : Nat, ztRun ztSm tx n s e ∧ e ≤ n ∧ r = .inl none ∧ H' = pV H 1 5 (.int (Int32.ofInt (e : Int)))
  | 0, _, _, _, _, _, _, h => Pn0 h
  | m + 1, a, L, hsa, han, hr, hL, h => by
    have hn := hc.1
    have hb := x_stL hT hL h
    rw [h2, zz_le, zz_cn (n := a)] at hb
    by_cases g : n ≤ a
    · rcases hb with ⟨-, e1, e2⟩ | ⟨c, -⟩
      · exact ⟨a, ⟨hsa, hr, by rw [ztB_ge g]; exact fun z => absurd z.1 (by decide)⟩, han, e1, e2⟩
      · exact absurd (show (n : Int) ≤ (a : Int) by omega) c
    · have hlt : a < n := by omega
      obtain ⟨t1, t2⟩ := hc.2 a hlt
      have hs := sb_rg t1
      have hi := sb_iff (lo := 97) (hi := 122) t1 (by decide) (by decide)
      rw [t2, zz_lt, zz_lt] at hb
      have stop : ¬ (97 ≤ sb (tx a) ∧ sb (tx a) ≤ 122) → ztRun ztSm tx n s a := fun z => ⟨hsa, hr, by rw [ztB_lt hlt]; exact fun q => z (hi.mpr q)⟩
      rcases hb with ⟨c, -⟩ | ⟨-, -, ⟨c, e1, e2⟩ | ⟨c, ⟨c2, e1, e2⟩ | ⟨c2, L', hL', h'⟩⟩⟩
      · exact absurd (show n ≤ a by omega) g
      · exact ⟨a, stop (by omega), han, e1, e2⟩
      · exact ⟨a, stop (by omega), han, e1, e2⟩
      · have hs1 : Int32.ofInt (a : Int) + Int32.ofInt 1 = Int32.ofInt ((a + 1 : Nat) : Int) := zz_add _ _
        rw [hs1] at hL'
        refine px_L hT hc h2 m (a + 1) L' (by omega) hlt (fun i h1 h3 => ?_) hL' h'
        by_cases q : i = a
        · rw [q, ztB_lt hlt]
          exact hi.mp ⟨by omega, by omega⟩
        · exact hr i h1 (by omega)
theorem px_N {s : Nat} : ∀ (m a : Nat) (L : mjL) (H : mjH), HT H → tcC H tx n → gI H 1 2 = Int32.ofInt (n : Int) → s ≤ a → a ≤ n → (∀ i, s ≤ i → i < a → ztDg (ztB tx n i)) → gI H 1 6 = Int32.ofInt (imn (nvF tx s (a - s)) 1000000) → (∀ x y, ¬ (x = 1 ∧ y = 6) → sxEl H x y = sxEl H0 x y) → LG L [(0, .ref 1), (1, .int (Int32.ofInt (a : Int)))] → Pn none m 83 173 L [] H r H' →
    ∃ e : Nat, ztRun ztDg tx n s e ∧ e ≤ n ∧ r = .inl none ∧ HT H' ∧ (∀ x y, ¬ (x = 1 ∧ (y = 5 ∨ y = 6)) → sxEl H' x y = sxEl H0 x y) ∧ gI H' 1 5 = Int32.ofInt (e : Int) ∧ gI H' 1 6 = Int32.ofInt (imn (nvF tx s (e - s)) 1000000)
  | 0, _, _, _, _, _, _, _, _, _, _, _, _, h => Pn0 h
  | m + 1, a, L, H, hT, hc, h2, hsa, han, hr, h6, hF, hL, h => by
    have hn := hc.1
    have hb := x_stN hT hL h
    rw [h2, zz_le, zz_cn (n := a)] at hb
    have fin : ztRun ztDg tx n s a → r = .inl none → H' = pV H 1 5 (.int (Int32.ofInt (a : Int))) → ∃ e : Nat, ztRun ztDg tx n s e ∧ e ≤ n ∧ r = .inl none ∧ HT H' ∧ (∀ x y, ¬ (x = 1 ∧ (y = 5 ∨ y = 6)) → sxEl H' x y = sxEl H0 x y) ∧ gI H' 1 5 = Int32.ofInt (e : Int) ∧ gI H' 1 6 = Int32.ofInt (imn (nvF tx s (e - s)) 1000000) := by
      intro k1 e1 e2
      rw [e2]
      refine ⟨a, k1, han, e1, HT.pFI hT kF_1_5_6_false, fun x y q => ?_, gI_fat hT kF_1_5_6_false, by rw [gI_ne (by omega)]; exact h6⟩
      rw [sxEl_ne (by omega)]
      exact hF x y (by omega)
    by_cases g : n ≤ a
    · rcases hb with ⟨-, e1, e2⟩ | ⟨c, -⟩
      · exact fin ⟨hsa, hr, by rw [ztB_ge g]; exact fun z => absurd z.1 (by decide)⟩ e1 e2
      · exact absurd (show (n : Int) ≤ (a : Int) by omega) c
    · have hlt : a < n := by omega
      obtain ⟨t1, t2⟩ := hc.2 a hlt
      have hs := sb_rg t1
      have hi := sb_iff (lo := 48) (hi := 57) t1 (by decide) (by decide)
      have dg : ∀ i, i < a - s → 48 ≤ (tx (s + i) : Int) := fun i hi => by
        have := hr (s + i) (by omega) (by omega)
        rw [ztB_lt (by omega)] at this
        exact this.1
      have v0 := nvF_0 dg
      have vr := imn_rg (M := 1000000) v0 (by decide)
      rw [t2, zz_lt, zz_lt, h6] at hb
      have stop : ¬ (48 ≤ sb (tx a) ∧ sb (tx a) ≤ 57) → ztRun ztDg tx n s a := fun z => ⟨hsa, hr, by rw [ztB_lt hlt]; exact fun q => z (hi.mpr q)⟩
      rcases hb with ⟨c, -⟩ | ⟨-, -, ⟨c, e1, e2⟩ | ⟨c, ⟨c2, e1, e2⟩ | ⟨c2, L', hL', h'⟩⟩⟩
      · exact absurd (show n ≤ a by omega) g
      · exact fin (stop (by omega)) e1 e2
      · exact fin (stop (by omega)) e1 e2
      · have hs1 : Int32.ofInt (a : Int) + Int32.ofInt 1 = Int32.ofInt ((a + 1 : Nat) : Int) := zz_add _ _
        have hd := hi.mp ⟨by omega, by omega⟩
        have hsb : sb (tx a) = (tx a : Int) := by
          unfold sb
          rw [if_pos (by omega)]
        have ev : (if Int32.ofInt 1000000 < Int32.ofInt (imn (nvF tx s (a - s)) 1000000) * Int32.ofInt 10 + Int32.ofInt (sb (tx a)) - Int32.ofInt 48 then Int32.ofInt 1000000 else Int32.ofInt (imn (nvF tx s (a - s)) 1000000) * Int32.ofInt 10 + Int32.ofInt (sb (tx a)) - Int32.ofInt 48) = Int32.ofInt (imn (nvF tx s (a + 1 - s)) 1000000) := by
          rw [zz_mul, zz_add, zz_sub, show a + 1 - s = (a - s) + 1 by omega]
          show _ = Int32.ofInt (imn (10 * nvF tx s (a - s) + ((tx (s + (a - s)) : Int) - 48)) 1000000)
          rw [show s + (a - s) = a by omega, ← imn_step v0 (by omega) (by decide)]
          generalize imn (nvF tx s (a - s)) 1000000 = q at vr
          rw [hsb]
          have e7 : q * 10 + (tx a : Int) - 48 = 10 * q + ((tx a : Int) - 48) := by omega
          rw [e7]
          unfold imn
          have hd1 := hd.1
          have hd2 := hd.2
          by_cases g9 : (1000000 : Int) < 10 * q + ((tx a : Int) - 48)
          · rw [if_pos ((zz_lt (a := 1000000) (b := 10 * q + ((tx a : Int) - 48))).mpr g9), if_pos g9]
          · rw [if_neg (fun z => g9 ((zz_lt (a := 1000000) (b := 10 * q + ((tx a : Int) - 48))).mp z)), if_neg g9]
        rw [hs1] at hL'
        rw [ev] at h'
        refine px_N m (a + 1) L' _ (HT.pFI hT kF_1_6_6_false) (hc.cg (fun x y q => sxEl_ne (by omega))) (by rw [gI_ne (by omega)]; exact h2) (by omega) hlt (fun i h1 h3 => ?_) (gI_fat hT kF_1_6_6_false) (fun x y q => (sxEl_ne (by omega)).trans (hF x y q)) hL' h'
        by_cases q : i = a
        · rw [q, ztB_lt hlt]
          exact hd
        · exact hr i h1 (by omega)
/-- over blanks, and what stands there is taken -/
theorem px_B {p : Nat} (hT : HT H) (hc : tcC H tx n) (h2 : gI H 1 2 = Int32.ofInt (n : Int)) : ∀ (m a : Nat) (L : mjL), p ≤ a → a ≤ n → (∀ i, p ≤ i → i < a → ztBl (ztB tx n i)) → LG L [(0, .ref 1), (1, .int (Int32.ofInt (a : Int)))] → Pn none m 83 14 L [] H r H' → ∃ s : Nat, ztRun ztBl tx n p s ∧ r = .inl none ∧ HT H' ∧ sFr H H' ∧ cAt H' tx n s
  | 0, _, _, _, _, _, _, h => Pn0 h
  | m + 1, a, L, hpa, han, hr, hL, h => by
    have hn := hc.1
    have k1 := HT.pFI (x := Int32.ofInt (a : Int)) hT kF_1_4_6_false
    by_cases g : n ≤ a
    · have e0 : a = n := by omega
      obtain ⟨e1, e2⟩ := x_stE hT (by rw [h2, zz_le]; omega) (by rw [h2, zz_le]; omega) (by rw [h2, zz_lt]; omega) hL h
      have k2 := HT.pFI (x := Int32.ofInt 0) k1 kF_1_6_6_false
      have k3 := HT.pFI (x := Int32.ofInt 0) k2 kF_1_3_6_false
      rw [e2]
      refine ⟨a, ⟨hpa, hr, by rw [ztB_ge g]; exact fun z => absurd (show (-1 : Int) = 32 from z) (by decide)⟩, e1, HT.pFI k3 kF_1_5_6_false, fun x y q => ?_, ?_, by rw [ztB_ge g]; decide, han, ?_, 0, 0, a, Or.inl ⟨g, rfl, rfl, rfl⟩, ?_, ?_, ?_, han⟩
      · rw [sxEl_ne (by omega), sxEl_ne (by omega), sxEl_ne (by omega), sxEl_ne (by omega)]
      · rw [gI_ne (by omega), gI_ne (by omega), gI_ne (by omega), gI_ne (by omega)]
        exact h2
      · rw [gI_ne (by omega), gI_ne (by omega), gI_ne (by omega), gI_fat hT kF_1_4_6_false]
      · rw [gI_ne (by omega), gI_fat k2 kF_1_3_6_false]
      · rw [gI_ne (by omega), gI_ne (by omega), gI_fat k1 kF_1_6_6_false]
      · rw [gI_fat k3 kF_1_5_6_false]
    have hlt : a < n := by omega
    obtain ⟨t1, t2⟩ := hc.2 a hlt
    have hs := sb_rg t1
    have k19 : ¬ (gI H 1 2 ≤ Int32.ofInt (a : Int)) := by rw [h2, zz_le]; omega
    have k75 : Int32.ofInt (a : Int) < gI H 1 2 := by rw [h2, zz_lt]; omega
    have ea : gI H 2 (Int32.ofInt (a : Int)).toNatClampNeg = Int32.ofInt (sb (tx a)) := by rw [zz_cn (n := a)]; exact t2
    have hs1 : Int32.ofInt (a : Int) + Int32.ofInt 1 = Int32.ofInt ((a + 1 : Nat) : Int) := zz_add _ _
    by_cases gb : (tx a : Int) = 32
    · obtain ⟨-, L', hL', h'⟩ := x_stB hT k19 (fun z => z (by rw [ea, (sb_32 t1).mpr gb])) hL h
      rw [hs1] at hL'
      refine px_B hT hc h2 m (a + 1) L' (by omega) hlt (fun i h1 h3 => ?_) hL' h'
      by_cases q : i = a
      · rw [q, ztB_lt hlt]
        exact gb
      · exact hr i h1 (by omega)
    have k30 : ¬ gI H 2 (Int32.ofInt (a : Int)).toNatClampNeg = Int32.ofInt 32 := by
      rw [ea, zz_eq, sb_32 t1]
      exact gb
    have ev : gI H 2 (Int32.ofInt (a : Int)).toNatClampNeg &&& Int32.ofInt 255 = Int32.ofInt (tx a : Int) := by rw [ea]; exact sb_255 _ t1
    have hrun : ztRun ztBl tx n p a := ⟨hpa, hr, by rw [ztB_lt hlt]; exact gb⟩
    have k2 := HT.pFI (x := Int32.ofInt (tx a : Int)) k1 kF_1_6_6_false
    have h32 : ztB tx n a ≠ 32 := by rw [ztB_lt hlt]; exact gb
    -- a sign
    have sgn : ¬ ztSm (tx a : Int) → ¬ ztDg (tx a : Int) → r = .inl none → H' = pV (pV (pV (pV H 1 4 (.int (Int32.ofInt (a : Int)))) 1 6 (.int (gI H 2 (Int32.ofInt (a : Int)).toNatClampNeg &&& Int32.ofInt 255))) 1 3 (.int (Int32.ofInt 3))) 1 5 (.int (Int32.ofInt (a : Int) + Int32.ofInt 1)) → ∃ s : Nat, ztRun ztBl tx n p s ∧ r = .inl none ∧ HT H' ∧ sFr H H' ∧ cAt H' tx n s := by
      intro n1 n2 e1 e2
      rw [ev, hs1] at e2
      have k3 := HT.pFI (x := Int32.ofInt 3) k2 kF_1_3_6_false
      rw [e2]
      refine ⟨a, hrun, e1, HT.pFI k3 kF_1_5_6_false, fun x y q => ?_, ?_, h32, han, ?_, 3, tx a, a + 1, Or.inr (Or.inr (Or.inr ⟨hlt, n1, n2, rfl, rfl, rfl⟩)), ?_, ?_, ?_, hlt⟩
      · rw [sxEl_ne (by omega), sxEl_ne (by omega), sxEl_ne (by omega), sxEl_ne (by omega)]
      · rw [gI_ne (by omega), gI_ne (by omega), gI_ne (by omega), gI_ne (by omega)]
        exact h2
      · rw [gI_ne (by omega), gI_ne (by omega), gI_ne (by omega), gI_fat hT kF_1_4_6_false]
      · rw [gI_ne (by omega), gI_fat k2 kF_1_3_6_false]
      · rw [gI_ne (by omega), gI_ne (by omega), gI_fat k1 kF_1_6_6_false]
      · rw [gI_fat k3 kF_1_5_6_false]
    by_cases g97 : (tx a : Int) < 97
    · have k92 : (gI H 2 (Int32.ofInt (a : Int)).toNatClampNeg &&& Int32.ofInt 255) < Int32.ofInt 97 := by rw [ev, zz_lt]; exact g97
      have nsm : ¬ ztSm (tx a : Int) := fun z => by have := z.1; omega
      by_cases g48 : (tx a : Int) < 48
      · obtain ⟨-, e1, e2⟩ := x_stG hT k19 k30 k19 k75 k92 (by rw [ev, zz_lt]; exact g48) hL h
        exact sgn nsm (fun z => by have := z.1; omega) e1 e2
      · have k151 : ¬ ((gI H 2 (Int32.ofInt (a : Int)).toNatClampNeg &&& Int32.ofInt 255) < Int32.ofInt 48) := by rw [ev, zz_lt]; exact g48
        by_cases g57 : 57 < (tx a : Int)
        · obtain ⟨-, e1, e2⟩ := x_stH hT k19 k30 k19 k75 k92 k151 (by rw [ev, zz_lt]; exact g57) hL h
          exact sgn nsm (fun z => by have := z.2; omega) e1 e2
        · have hdg : ztDg (tx a : Int) := ⟨by omega, by omega⟩
          obtain ⟨-, L', hL', h'⟩ := x_stD hT k19 k30 k19 k75 k92 k151 (by rw [ev, zz_lt]; exact g57) hL h
          rw [ev] at h'
          have k3 := HT.pFI (x := Int32.ofInt 2) k2 kF_1_3_6_false
          have k4 := HT.pFI (x := Int32.ofInt 0) k3 kF_1_6_6_false
          obtain ⟨e, f1, f2, f3, f4, f5, f6, f7⟩ := px_N (tx := tx) (n := n) (s := a) (H0 := pV (pV (pV (pV H 1 4 (.int (Int32.ofInt (a : Int)))) 1 6 (.int (Int32.ofInt (tx a : Int)))) 1 3 (.int (Int32.ofInt 2))) 1 6 (.int (Int32.ofInt 0))) m a L' _ k4 (hc.cg (fun x y q => by rw [sxEl_ne (by omega), sxEl_ne (by omega), sxEl_ne (by omega), sxEl_ne (by omega)])) (by rw [gI_ne (by omega), gI_ne (by omega), gI_ne (by omega), gI_ne (by omega)]; exact h2) (Nat.le_refl _) han (fun i h1 h3 => absurd h1 (by omega)) (by rw [gI_fat k3 kF_1_6_6_false, Nat.sub_self]; rfl) (fun _ _ _ => rfl) hL' h'
          refine ⟨a, hrun, f3, f4, fun x y q => ?_, ?_, h32, han, ?_, 2, imn (nvF tx a (e - a)) 1000000, e, Or.inr (Or.inr (Or.inl ⟨hlt, hdg, rfl, rfl, f1⟩)), ?_, f7, f6, f2⟩
          · rw [f5 x y (by omega), sxEl_ne (by omega), sxEl_ne (by omega), sxEl_ne (by omega), sxEl_ne (by omega)]
          · rw [gI_cgE (f5 1 2 (by omega)), gI_ne (by omega), gI_ne (by omega), gI_ne (by omega), gI_ne (by omega)]
            exact h2
          · rw [gI_cgE (f5 1 4 (by omega)), gI_ne (by omega), gI_ne (by omega), gI_ne (by omega), gI_fat hT kF_1_4_6_false]
          · rw [gI_cgE (f5 1 3 (by omega)), gI_ne (by omega), gI_fat k2 kF_1_3_6_false]
    · have k92 : ¬ ((gI H 2 (Int32.ofInt (a : Int)).toNatClampNeg &&& Int32.ofInt 255) < Int32.ofInt 97) := by rw [ev, zz_lt]; exact g97
      by_cases g122 : 122 < (tx a : Int)
      · obtain ⟨-, e1, e2⟩ := x_stI hT k19 k30 k19 k75 k92 (by rw [ev, zz_lt]; exact g122) (by rw [ev, zz_lt]; omega) (by rw [ev, zz_lt]; omega) hL h
        exact sgn (fun z => by have := z.2; omega) (fun z => by have := z.2; omega) e1 e2
      · have hsm : ztSm (tx a : Int) := ⟨by omega, by omega⟩
        obtain ⟨-, L', hL', h'⟩ := x_stW hT k19 k30 k19 k75 k92 (by rw [ev, zz_lt]; exact g122) hL h
        rw [ev] at h'
        have k3 := HT.pFI (x := Int32.ofInt 1) k2 kF_1_3_6_false
        obtain ⟨e, f1, f2, f3, f4⟩ := px_L (tx := tx) (n := n) (s := a) k3 (hc.cg (fun x y q => by rw [sxEl_ne (by omega), sxEl_ne (by omega), sxEl_ne (by omega)])) (by rw [gI_ne (by omega), gI_ne (by omega), gI_ne (by omega)]; exact h2) m a L' (Nat.le_refl _) han (fun i h1 h3 => absurd h1 (by omega)) hL' h'
        rw [f4]
        refine ⟨a, hrun, f3, HT.pFI k3 kF_1_5_6_false, fun x y q => ?_, ?_, h32, han, ?_, 1, tx a, e, Or.inr (Or.inl ⟨hlt, hsm, rfl, rfl, f1⟩), ?_, ?_, ?_, f2⟩
        · rw [sxEl_ne (by omega), sxEl_ne (by omega), sxEl_ne (by omega), sxEl_ne (by omega)]
        · rw [gI_ne (by omega), gI_ne (by omega), gI_ne (by omega), gI_ne (by omega)]
          exact h2
        · rw [gI_ne (by omega), gI_ne (by omega), gI_ne (by omega), gI_fat hT kF_1_4_6_false]
        · rw [gI_ne (by omega), gI_fat k2 kF_1_3_6_false]
        · rw [gI_ne (by omega), gI_ne (by omega), gI_fat k1 kF_1_6_6_false]
        · rw [gI_fat k3 kF_1_5_6_false]
/-- on to what stands next -/
theorem px_step {p : Nat} {k : Int} (hT : HT H) (hc : tcC H tx n) (h2 : gI H 1 2 = Int32.ofInt (n : Int)) (h3 : gI H 1 3 = Int32.ofInt k) (hk : 0 ≤ k ∧ k < 4) (h5 : gI H 1 5 = Int32.ofInt (p : Int)) (hp : p ≤ n) (h : Pn none m 83 0 [(0, .ref 1)] [] H r H') : ∃ s : Nat, ztRun ztBl tx n p s ∧ r = .inl none ∧ HT H' ∧ sFr H H' ∧ cAt H' tx n s := by
  have hb := x_st0 hT ⟨rfl, trivial⟩ h
  rw [h3, zz_eq, h5] at hb
  rcases hb with ⟨-, L', hL', h'⟩ | ⟨c, -⟩
  · exact px_B hT hc h2 m p L' (Nat.le_refl _) hp (fun i h1 h3 => absurd h1 (by omega)) hL' h'
  · exact absurd (by omega) c
theorem ztok_k {s : Nat} {k v : Int} {e : Nat} (h : ztok tx n s k v e) : 0 ≤ k ∧ k < 4 := by
  rcases h with ⟨-, h, -⟩ | ⟨-, -, h, -⟩ | ⟨-, -, h, -⟩ | ⟨-, -, -, h, -⟩ <;> omega
/-- where what was taken last ends -/
def ztEnd (tx : Nat → Nat) (n s e : Nat) : Prop := ∃ k v, ztok tx n s k v e
theorem px_next {s : Nat} (hT : HT H) (hc : tcC H tx n) (ha : cAt H tx n s) (h : Pn none m 83 0 [(0, .ref 1)] [] H r H') : ∃ e s' : Nat, ztEnd tx n s e ∧ ztRun ztBl tx n e s' ∧ r = .inl none ∧ HT H' ∧ sFr H H' ∧ cAt H' tx n s' := by
  obtain ⟨a1, a2, a3, a4, k, v, e, a5, a6, a7, a8, a9⟩ := ha
  obtain ⟨s', b1, b2, b3, b4, b5⟩ := px_step hT hc a1 a6 (ztok_k a5) a8 a9 h
  exact ⟨e, s', ⟨k, v, a5⟩, b1, b2, b3, b4, b5⟩
end PCTX

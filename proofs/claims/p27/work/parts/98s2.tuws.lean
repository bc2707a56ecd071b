/-! a case with a week: what is LEFT in it is a number of the text's too -/
noncomputable section TUWS
variable {J T : Nat} {V : rdVt} {scr : Option (List Int32)} {Z : mjO → Prop} {d : Nat} {H : mjH} {τ : List Int} {cl : mjL} {cs : List Value}
theorem tLF_same {T T' : Nat} (hu : ∀ j, j < 64 → tUl T' j = tUl T j) (a : Int) : ∀ k, k ≤ 12 → tLF T' a k = tLF T a k
  | 0, _ => rfl
  | k + 1, h => by
    have ih := tLF_same hu a k (by omega)
    have ew : tWk T' = tWk T := by
      unfold tWk
      rw [hu 63 (by decide)]
    have e1 : tLF T' a (k + 1) = if tCl 0 63 (tUl T' (51 + k)) ≤ tWk T' then (Int64.ofInt (tLF T' a k) &&& Int64.ofInt (tUl T' (34 + k))).toInt else tLF T' a k := rfl
    have e2 : tLF T a (k + 1) = if tCl 0 63 (tUl T (51 + k)) ≤ tWk T then (Int64.ofInt (tLF T a k) &&& Int64.ofInt (tUl T (34 + k))).toInt else tLF T a k := rfl
    rw [e1, e2, hu (51 + k) (by omega), hu (34 + k) (by omega), ew, ih]
theorem ocWeekS (T w : Nat) (hw : w < 52) (a : Int) (s : Nat) (hs : s ≤ 12) : ∃ T', T' % tPw 600 = T % tPw 600 ∧ (∀ j, j < 63 → tUl T' j = tUl T j) ∧ tWk T' = w ∧ tUl T' 64 = tLF T' a s := by
  obtain ⟨T1, a1, a2, a3⟩ := ocWeek T w hw
  obtain ⟨T2, t1, t2⟩ := txU T1 (fun j => if j < 64 then Int64.ofNat (tUn T1 j) else Int64.ofInt (tLF T1 a s))
  have hu : ∀ j, j < 64 → tUl T2 j = tUl T1 j := fun j hj => by
    have e := t2 j (by omega)
    rw [if_pos hj] at e
    exact e
  refine ⟨T2, t1.trans a1, fun j hj => (hu j (by omega)).trans (a2 j hj), ?_, ?_⟩
  · unfold tWk at a3 ⊢
    rw [hu 63 (by decide)]
    exact a3
  · have e := t2 64 (by decide)
    have rg := tLF_rg (T := T1) a s
    rw [if_neg (by decide), Int64.toInt_ofInt_of_le (by omega) (by omega)] at e
    rw [e, tLF_same hu a s hs]
/-- one symbol more, of which some facts speak -/
theorem tuAdd1 {n : Nat} {vw : Nat → Nat → Option Value} {p : sxPt} {z lo hi : Int} {F' : sxF} (hp : sxPtR T n vw τ p cl cs) (hz : lo ≤ z ∧ z ≤ hi) (hF : ∀ q ∈ F', sxFt T (τ ++ [z]) q) : sxPtR T n vw (τ ++ [z]) (p.1 + 1, p.2.1 ++ [(p.1, lo, hi)], p.2.2.1, p.2.2.2.1, p.2.2.2.2.1, p.2.2.2.2.2.1, p.2.2.2.2.2.2.1, p.2.2.2.2.2.2.2 ++ F') cl cs := by
  obtain ⟨p1, p2, p3, p4, p5, p6, p7, p8⟩ := hp
  have up : sxUp τ (τ ++ [z]) := sxUp.app _ _
  have e : (τ ++ [z])[p.1]? = some z := by
    rw [List.getElem?_append_right (Nat.le_of_eq p1.1), p1.1, Nat.sub_self]
    rfl
  refine ⟨⟨by rw [List.length_append, p1.1]; rfl, up _ _ p1.2⟩, fun q hq => ?_, fun q hq => (p3 q hq).up up, p4.up up, sxSR.up up p5, p6.up up, p7.up up, fun q hq => ?_⟩
  · rcases List.mem_append.mp hq with hq | hq
    · obtain ⟨y, y1, y2⟩ := p2 q hq
      exact ⟨y, up _ _ y1, y2⟩
    · cases List.mem_singleton.mp hq
      exact ⟨z, e, hz⟩
  · rcases List.mem_append.mp hq with hq | hq
    · obtain ⟨a, b, c, h1, h2, h3, h4⟩ := p8 q hq
      exact ⟨a, b, c, h1.up up, h2.up up, h3.up up, h4⟩
    · exact hF q hq
def tuPwS (J na kw : Nat) : sxPt := (18 + na + 1, (tuPw J na kw (.ofNat 0) (.ofNat 51) []).2.1 ++ [(18 + na, .negSucc 9223372036854775807, .ofNat 9223372036854775807)], (tuPc J).2.2.1, (tuPc J).2.2.2.1, [], (tuPw J na kw (.ofNat 0) (.ofNat 51) []).2.2.2.2.2.1, [], [(40, (0, .ofNat 0), (0, .ofNat 0), (2, .ofNat 0)), (62, (0, .ofNat 0), (0, .ofNat 0), (18 + kw, .ofNat 0)), (61, (5, .ofNat 0), (7, .ofNat 0), (18 + na, .ofNat 0)), (68, (0, .ofNat 0), (0, .ofNat 0), (18 + na, .ofNat 0))])
/-- ahead of the weeks, behind them, in them -/
theorem tuWeekS {na kw pc : Nat} {Pl Ph Pi : sxPt} (hJ : J = 3 ∨ J = 11) (hk : kw < na) (hna : na ≤ 5) (gl : tuGoP J pc Pl) (gh : tuGoP J pc Ph) (gi : tuGoP J pc Pi)
    (el : Pl = tuPw J na kw (.negSucc 2147483647) (.negSucc 0) []) (eh : Ph = tuPw J na kw (.ofNat 52) (.ofNat 2147483647) []) (ei : Pi = tuPwS J na kw) : tuGoodJ J pc := by
  intro T scr Z d τ cl H hd hH hp hb hsl hgo hend
  subst el eh ei
  obtain ⟨xs, i, hxs, hi3, hi0, hlen⟩ := tuNumA hp hsl
  have hlt : τ.length = 18 := hp.1.1
  have up : sxUp τ (τ ++ tuArg xs i.toNat na) := sxUp.app _ _
  have hsl6 : sxSl (τ ++ tuArg xs i.toNat na) (some (1, 0)) scr := by
    obtain ⟨ys, s1, s2, y, s3, s4⟩ := hsl
    exact ⟨ys, s1, s2, y, up _ _ s3, s4⟩
  have hgo6 := tuGoOn6 (L := tuArg xs i.toNat na) hlt hgo
  have h1 := Int32.le_toInt (xs.getD (i.toNat + 1 + kw) 0)
  have h2 := Int32.toInt_lt (xs.getD (i.toNat + 1 + kw) 0)
  by_cases c1 : (xs.getD (i.toNat + 1 + kw) 0).toInt < 0
  · exact gl T scr Z d _ cl H hd hH (tuExtA hna hp hlt hxs hi3 hi0 hlen hp.2.2.2.2.2.1 (fun _ => ⟨by simp only [Int.negSucc_eq]; omega, by simp only [Int.negSucc_eq]; omega⟩) (fun q hq => by cases hq)) (up _ _ hb) hsl6 hgo6 hend
  · by_cases c2 : 51 < (xs.getD (i.toNat + 1 + kw) 0).toInt
    · exact gh T scr Z d _ cl H hd hH (tuExtA hna hp hlt hxs hi3 hi0 hlen hp.2.2.2.2.2.1 (fun _ => ⟨by simp only [Int.ofNat_eq_natCast]; omega, by simp only [Int.ofNat_eq_natCast]; omega⟩) (fun q hq => by cases hq)) (up _ _ hb) hsl6 hgo6 hend
    · obtain ⟨za, x1, x2⟩ := hp.2.1 (5, .ofNat 1, .ofNat 6) (by simp [tuPc])
      obtain ⟨zs, y1, y2, y3⟩ := hp.2.1 (7, .ofNat 0, .ofNat 12) (by simp [tuPc])
      dsimp only at x1 y1 y2 y3
      simp only [Int.ofNat_eq_natCast] at y2 y3
      have ez : ((zs.toNat : Nat) : Int) = zs := by omega
      obtain ⟨T', t1, t2, t3, t4⟩ := ocWeekS T (xs.getD (i.toNat + 1 + kw) 0).toInt.toNat (by omega) za zs.toNat (by omega)
      have hO := tuOWk hp.1.2 hp.2.2.2.2.2.1 t1 t2 (by rcases hJ with rfl | rfl <;> decide +kernel)
      have hb' : (τ ++ tuArg xs i.toNat na)[2]? = some (tLn T' : Int) := by rw [tLn_mod t1]; exact up _ _ hb
      have hz0 : (τ ++ tuArg xs i.toNat na)[0]? = some 0 := up _ _ hp.1.2
      have hF : ∀ q ∈ ([(40, (0, .ofNat 0), (0, .ofNat 0), (2, .ofNat 0)), (62, (0, .ofNat 0), (0, .ofNat 0), (18 + kw, .ofNat 0))] : sxF), sxFt T' (τ ++ tuArg xs i.toNat na) q := fun q hq => by
        simp only [List.mem_cons, List.not_mem_nil, or_false] at hq
        rcases hq with rfl | rfl
        · exact ⟨0, 0, (tLn T' : Int), ⟨0, hz0, rfl⟩, ⟨0, hz0, rfl⟩, ⟨_, hb', by simp⟩, rfl⟩
        · refine ⟨0, 0, (xs.getD (i.toNat + 1 + kw) 0).toInt, ⟨0, hz0, rfl⟩, ⟨0, hz0, rfl⟩, ⟨(xs.getD (i.toNat + 1 + kw) 0).toInt, ?_, by simp⟩, ?_⟩
          · show (τ ++ tuArg xs i.toNat na)[18 + kw]? = some _
            rw [List.getElem?_append_right (by omega), hlt, show 18 + kw - 18 = kw by omega]
            exact tuArg_at hk
          · show tWk T' = _
            rw [t3]
            omega
      have hbase := tuExtA (lo := .ofNat 0) (hi := .ofNat 51) (kw := kw) hna hp hlt hxs hi3 hi0 hlen hO (fun _ => ⟨by simp only [Int.ofNat_eq_natCast]; omega, by simp only [Int.ofNat_eq_natCast]; omega⟩) hF
      have hla : (τ ++ tuArg xs i.toNat na).length = 18 + na := hbase.1.1
      have up2 : sxUp (τ ++ tuArg xs i.toNat na) (τ ++ tuArg xs i.toNat na ++ [tUl T' 64]) := sxUp.app _ _
      have rg := i64_rg (Int64.ofNat (tUn T' 64))
      have rg : -9223372036854775808 ≤ tUl T' 64 ∧ tUl T' 64 ≤ 9223372036854775807 := rg
      have en : (τ ++ tuArg xs i.toNat na ++ [tUl T' 64])[18 + na]? = some (tUl T' 64) := by
        rw [List.getElem?_append_right (Nat.le_of_eq hla), hla, Nat.sub_self]
        rfl
      have hnew := tuAdd1 (F' := [(61, (5, .ofNat 0), (7, .ofNat 0), (18 + na, .ofNat 0)), (68, (0, .ofNat 0), (0, .ofNat 0), (18 + na, .ofNat 0))]) (lo := .negSucc 9223372036854775807) (hi := .ofNat 9223372036854775807) (z := tUl T' 64) hbase ⟨by simp only [Int.negSucc_eq]; omega, by simp only [Int.ofNat_eq_natCast]; omega⟩ (fun q hq => by
        simp only [List.mem_cons, List.not_mem_nil, or_false] at hq
        rcases hq with rfl | rfl
        · refine ⟨za, zs, tUl T' 64, ⟨za, up2 _ _ (up _ _ x1), by simp⟩, ⟨zs, up2 _ _ (up _ _ y1), by simp⟩, ⟨_, en, by simp⟩, ?_⟩
          show tLF T' za zs.toNat = _
          exact t4.symm
        · exact ⟨0, 0, tUl T' 64, ⟨0, up2 _ _ hz0, rfl⟩, ⟨0, up2 _ _ hz0, rfl⟩, ⟨_, en, by simp⟩, rfl⟩)
      have hsl7 : sxSl (τ ++ tuArg xs i.toNat na ++ [tUl T' 64]) (some (1, 0)) scr := by
        obtain ⟨ys, s1, s2, y, s3, s4⟩ := hsl6
        exact ⟨ys, s1, s2, y, up2 _ _ s3, s4⟩
      have hgo7 : tuGoOn scr Z d (τ ++ tuArg xs i.toNat na ++ [tUl T' 64]) := by
        rw [List.append_assoc]
        exact tuGoOn6 hlt hgo
      exact gi T' scr Z d _ cl H hd hH hnew (up2 _ _ hb') hsl7 hgo7 hend
end TUWS

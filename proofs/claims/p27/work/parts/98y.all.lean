/-! the law's turn: all cases -/
section TUALL
theorem tuC288 : tuGood 288 := tuFeed
theorem tuC361 : tuGood 361 := tuGood3 (tuJarJ (J := 3) (Or.inl rfl) (rc := rdCs) (k := ctJarM.1) (n := rdNeed) (C := 0) (S := 0) (M := rdMR) (M2 := tuMI) (nd := tuNI) (tuJlo (Or.inl rfl)) (tuJhi (Or.inl rfl)) (by decide) (fun v hv => by
    have h : v = (-9) ∨ v = (-8) ∨ v = (-7) ∨ v = (-6) ∨ v = 0 ∨ v = 1 ∨ v = 2 ∨ v = 3 ∨ v = 4 ∨ v = 5 ∨ v = 6 ∨ v = 7 ∨ v = 8 ∨ v = 9 ∨ v = 10 ∨ v = 11 ∨ v = 12 := by omega
    rcases h with rfl | rfl | rfl | rfl | rfl | rfl | rfl | rfl | rfl | rfl | rfl | rfl | rfl | rfl | rfl | rfl | rfl
    · exact ⟨tuC_m9_3, _, tuJ_m9_3, fun T V h1 h2 => tuV_m9_3 h1 h2⟩
    · exact ⟨tuC_m8_3, _, tuJ_m8_3, fun T V h1 h2 => tuV_m8_3 h1 h2⟩
    · exact ⟨tuC_m7_3, _, tuJ_m7_3, fun T V h1 h2 => tuV_m7_3 h1 h2⟩
    · exact ⟨tuC_m6_3, _, tuJ_m6_3, fun T V h1 h2 => tuV_m6_3 h1 h2⟩
    · exact ⟨tuC_p0_3, _, tuJ_p0_3, fun T V h1 h2 => tuV_p0_3 h1 h2⟩
    · exact ⟨tuC_p1_3, _, tuJ_p1_3, fun T V h1 h2 => tuV_p1_3 h1 h2⟩
    · exact ⟨tuC_p2_3, _, tuJ_p2_3, fun T V h1 h2 => tuV_p2_3 h1 h2⟩
    · exact ⟨tuC_p3_3, _, tuJ_p3_3, fun T V h1 h2 => tuV_p3_3 h1 h2⟩
    · exact ⟨tuC_p4_3, _, tuJ_p4_3, fun T V h1 h2 => tuV_p4_3 h1 h2⟩
    · exact ⟨tuC_p5_3, _, tuJ_p5_3, fun T V h1 h2 => tuV_p5_3 h1 h2⟩
    · exact ⟨tuC_p6_3, _, tuJ_p6_3, fun T V h1 h2 => tuV_p6_3 h1 h2⟩
    · exact ⟨tuC_p7_3, _, tuJ_p7_3, fun T V h1 h2 => tuV_p7_3 h1 h2⟩
    · exact ⟨tuC_p8_3, _, tuJ_p8_3, fun T V h1 h2 => tuV_p8_3 h1 h2⟩
    · exact ⟨tuC_p9_3, _, tuJ_p9_3, fun T V h1 h2 => tuV_p9_3 h1 h2⟩
    · exact ⟨tuC_p10_3, _, tuJ_p10_3, fun T V h1 h2 => tuV_p10_3 h1 h2⟩
    · exact ⟨tuC_p11_3, _, tuJ_p11_3, fun T V h1 h2 => tuV_p11_3 h1 h2⟩
    · exact ⟨tuC_p12_3, _, tuJ_p12_3, fun T V h1 h2 => tuV_p12_3 h1 h2⟩) (fun T q hq => rdCsV q hq) rdCsK)
theorem tuAll : ∀ u ∈ tuLabs, tuGood u := (List.forall_mem_cons.mpr ⟨tuC288, (List.forall_mem_cons.mpr ⟨tuC361, (List.forall_mem_cons.mpr ⟨tuC389, (List.forall_mem_cons.mpr ⟨tuC417, (List.forall_mem_cons.mpr ⟨tuC445, (List.forall_mem_cons.mpr ⟨tuC458, (List.forall_mem_cons.mpr ⟨tuC486, (List.forall_mem_cons.mpr ⟨tuC514, (List.forall_mem_cons.mpr ⟨tuC542, (List.forall_mem_cons.mpr ⟨tuC570, (List.forall_mem_cons.mpr ⟨tuC610, (List.forall_mem_cons.mpr ⟨tuC662, (List.forall_mem_cons.mpr ⟨tuC675, (List.forall_mem_cons.mpr ⟨tuC688, (List.forall_mem_cons.mpr ⟨tuC745, (List.forall_mem_cons.mpr ⟨tuC770, (List.forall_mem_cons.mpr ⟨tuC798, (List.forall_mem_cons.mpr ⟨tuC826, (List.forall_mem_cons.mpr ⟨tuC854, (List.forall_mem_cons.mpr ⟨tuC894, (List.forall_mem_cons.mpr ⟨tuC922, (List.forall_mem_cons.mpr ⟨tuC935, (List.forall_mem_cons.mpr ⟨tuC963, (List.forall_mem_cons.mpr ⟨tuC991, (List.forall_mem_cons.mpr ⟨tuC1007, (List.forall_mem_cons.mpr ⟨tuC1047, (List.forall_mem_cons.mpr ⟨tuC1115, (List.forall_mem_cons.mpr ⟨tuC1155, (List.forall_mem_cons.mpr ⟨tuC1183, (List.forall_mem_cons.mpr ⟨tuC1223, (List.forall_mem_cons.mpr ⟨tuC1251, (List.forall_mem_cons.mpr ⟨tuC1279, (List.forall_mem_cons.mpr ⟨tuC1307, (List.forall_mem_cons.mpr ⟨tuC1335, (List.forall_mem_cons.mpr ⟨tuC1387, (List.forall_mem_cons.mpr ⟨tuC1424, (List.forall_mem_cons.mpr ⟨tuC1464, (List.forall_mem_cons.mpr ⟨tuC1492, (List.forall_mem_cons.mpr ⟨tuC1520, (List.forall_mem_cons.mpr ⟨tuC1560, (List.forall_mem_cons.mpr ⟨tuC1600, (List.forall_mem_cons.mpr ⟨tuC1628, (List.forall_mem_cons.mpr ⟨tuC1656, (List.forall_mem_cons.mpr ⟨tuC1684, (List.forall_mem_cons.mpr ⟨tuC1712, (List.forall_mem_cons.mpr ⟨tuC1764, (List.forall_mem_cons.mpr ⟨tuC1804, (List.forall_mem_cons.mpr ⟨tuC1832, (List.forall_mem_cons.mpr ⟨tuC1860, (List.forall_mem_cons.mpr ⟨tuC1888, (List.forall_mem_cons.mpr ⟨tuC1913, (List.forall_mem_cons.mpr ⟨tuC1941, (List.forall_mem_cons.mpr ⟨tuC1954, (List.forall_mem_cons.mpr ⟨tuC1967, (List.forall_mem_cons.mpr ⟨tuC2031, (List.forall_mem_cons.mpr ⟨tuC2044, (List.forall_mem_cons.mpr ⟨tuC2057, (List.forall_mem_cons.mpr ⟨tuC2082, (List.forall_mem_cons.mpr ⟨tuC2107, (fun _ h => absurd h List.not_mem_nil)⟩)⟩)⟩)⟩)⟩)⟩)⟩)⟩)⟩)⟩)⟩)⟩)⟩)⟩)⟩)⟩)⟩)⟩)⟩)⟩)⟩)⟩)⟩)⟩)⟩)⟩)⟩)⟩)⟩)⟩)⟩)⟩)⟩)⟩)⟩)⟩)⟩)⟩)⟩)⟩)⟩)⟩)⟩)⟩)⟩)⟩)⟩)⟩)⟩)⟩)⟩)⟩)⟩)⟩)⟩)⟩)⟩)⟩)⟩)

end TUALL

/-! the law's turn: all cases -/
section TUALL
theorem tuC288 : tuGood 288 := tuFeed (by decide)
theorem tuC361 : tuGood 361 := tuJar (rc := rdCs) (k := ctJarM.1) (n := rdNeed) (C := 0) (S := 0) (M := rdMR) (M2 := tuMI) (nd := tuNI) tuJlo tuJhi (by decide) (fun v hv => by
    have h : v = (-9) ∨ v = (-8) ∨ v = (-7) ∨ v = (-6) ∨ v = 0 ∨ v = 1 ∨ v = 2 ∨ v = 3 ∨ v = 4 ∨ v = 5 ∨ v = 6 ∨ v = 7 ∨ v = 8 ∨ v = 9 ∨ v = 10 ∨ v = 11 ∨ v = 12 := by omega
    rcases h with rfl | rfl | rfl | rfl | rfl | rfl | rfl | rfl | rfl | rfl | rfl | rfl | rfl | rfl | rfl | rfl | rfl
    · exact ⟨tuC_m9, _, tuJ_m9, fun T V h1 h2 => tuV_m9 h1 h2⟩
    · exact ⟨tuC_m8, _, tuJ_m8, fun T V h1 h2 => tuV_m8 h1 h2⟩
    · exact ⟨tuC_m7, _, tuJ_m7, fun T V h1 h2 => tuV_m7 h1 h2⟩
    · exact ⟨tuC_m6, _, tuJ_m6, fun T V h1 h2 => tuV_m6 h1 h2⟩
    · exact ⟨tuC_p0, _, tuJ_p0, fun T V h1 h2 => tuV_p0 h1 h2⟩
    · exact ⟨tuC_p1, _, tuJ_p1, fun T V h1 h2 => tuV_p1 h1 h2⟩
    · exact ⟨tuC_p2, _, tuJ_p2, fun T V h1 h2 => tuV_p2 h1 h2⟩
    · exact ⟨tuC_p3, _, tuJ_p3, fun T V h1 h2 => tuV_p3 h1 h2⟩
    · exact ⟨tuC_p4, _, tuJ_p4, fun T V h1 h2 => tuV_p4 h1 h2⟩
    · exact ⟨tuC_p5, _, tuJ_p5, fun T V h1 h2 => tuV_p5 h1 h2⟩
    · exact ⟨tuC_p6, _, tuJ_p6, fun T V h1 h2 => tuV_p6 h1 h2⟩
    · exact ⟨tuC_p7, _, tuJ_p7, fun T V h1 h2 => tuV_p7 h1 h2⟩
    · exact ⟨tuC_p8, _, tuJ_p8, fun T V h1 h2 => tuV_p8 h1 h2⟩
    · exact ⟨tuC_p9, _, tuJ_p9, fun T V h1 h2 => tuV_p9 h1 h2⟩
    · exact ⟨tuC_p10, _, tuJ_p10, fun T V h1 h2 => tuV_p10 h1 h2⟩
    · exact ⟨tuC_p11, _, tuJ_p11, fun T V h1 h2 => tuV_p11 h1 h2⟩
    · exact ⟨tuC_p12, _, tuJ_p12, fun T V h1 h2 => tuV_p12 h1 h2⟩) (fun T q hq => rdCsV q hq) rdCsK
theorem tuAll : ∀ u ∈ tuLabs, tuGood u := (List.forall_mem_cons.mpr ⟨tuC288, (List.forall_mem_cons.mpr ⟨tuC361, (List.forall_mem_cons.mpr ⟨tuC389, (List.forall_mem_cons.mpr ⟨tuC417, (List.forall_mem_cons.mpr ⟨tuC445, (List.forall_mem_cons.mpr ⟨tuC458, (List.forall_mem_cons.mpr ⟨tuC486, (List.forall_mem_cons.mpr ⟨tuC514, (List.forall_mem_cons.mpr ⟨tuC542, (List.forall_mem_cons.mpr ⟨tuC570, (List.forall_mem_cons.mpr ⟨tuC610, (List.forall_mem_cons.mpr ⟨tuC662, (List.forall_mem_cons.mpr ⟨tuC675, (List.forall_mem_cons.mpr ⟨tuC688, (List.forall_mem_cons.mpr ⟨tuC745, (List.forall_mem_cons.mpr ⟨tuC770, (List.forall_mem_cons.mpr ⟨tuC798, (List.forall_mem_cons.mpr ⟨tuC826, (List.forall_mem_cons.mpr ⟨tuC854, (List.forall_mem_cons.mpr ⟨tuC894, (List.forall_mem_cons.mpr ⟨tuC922, (List.forall_mem_cons.mpr ⟨tuC935, (List.forall_mem_cons.mpr ⟨tuC963, (List.forall_mem_cons.mpr ⟨tuC991, (List.forall_mem_cons.mpr ⟨tuC1007, (List.forall_mem_cons.mpr ⟨tuC1047, (List.forall_mem_cons.mpr ⟨tuC1087, (List.forall_mem_cons.mpr ⟨tuC1127, (List.forall_mem_cons.mpr ⟨tuC1155, (List.forall_mem_cons.mpr ⟨tuC1195, (List.forall_mem_cons.mpr ⟨tuC1223, (List.forall_mem_cons.mpr ⟨tuC1251, (List.forall_mem_cons.mpr ⟨tuC1279, (List.forall_mem_cons.mpr ⟨tuC1307, (List.forall_mem_cons.mpr ⟨tuC1359, (List.forall_mem_cons.mpr ⟨tuC1396, (List.forall_mem_cons.mpr ⟨tuC1436, (List.forall_mem_cons.mpr ⟨tuC1464, (List.forall_mem_cons.mpr ⟨tuC1492, (List.forall_mem_cons.mpr ⟨tuC1532, (List.forall_mem_cons.mpr ⟨tuC1572, (List.forall_mem_cons.mpr ⟨tuC1600, (List.forall_mem_cons.mpr ⟨tuC1628, (List.forall_mem_cons.mpr ⟨tuC1656, (List.forall_mem_cons.mpr ⟨tuC1684, (List.forall_mem_cons.mpr ⟨tuC1736, (List.forall_mem_cons.mpr ⟨tuC1776, (List.forall_mem_cons.mpr ⟨tuC1804, (List.forall_mem_cons.mpr ⟨tuC1832, (List.forall_mem_cons.mpr ⟨tuC1860, (List.forall_mem_cons.mpr ⟨tuC1885, (List.forall_mem_cons.mpr ⟨tuC1913, (List.forall_mem_cons.mpr ⟨tuC1926, (List.forall_mem_cons.mpr ⟨tuC1939, (List.forall_mem_cons.mpr ⟨tuC2003, (List.forall_mem_cons.mpr ⟨tuC2016, (List.forall_mem_cons.mpr ⟨tuC2029, (List.forall_mem_cons.mpr ⟨tuC2054, (List.forall_mem_cons.mpr ⟨tuC2079, (fun _ h => absurd h List.not_mem_nil)⟩)⟩)⟩)⟩)⟩)⟩)⟩)⟩)⟩)⟩)⟩)⟩)⟩)⟩)⟩)⟩)⟩)⟩)⟩)⟩)⟩)⟩)⟩)⟩)⟩)⟩)⟩)⟩)⟩)⟩)⟩)⟩)⟩)⟩)⟩)⟩)⟩)⟩)⟩)⟩)⟩)⟩)⟩)⟩)⟩)⟩)⟩)⟩)⟩)⟩)⟩)⟩)⟩)⟩)⟩)⟩)⟩)⟩)⟩)

end TUALL

/-! the law's turn: all cases -/
section TUALL
theorem tuC288 : tuGood 288 := tuFeed
theorem tuC361 : tuGood 361 := tuGood3 (tuJarJ (J := 3) (Or.inl rfl) (rc := rdCs) (k := ctJarM.1) (n := rdNeed) (C := 0) (S := 0) (M := rdMR) (M2 := tuMI) (nd := tuNI) (tuJlo (Or.inl rfl)) (tuJhi (Or.inl rfl)) (by decide) (fun v hv => by
    have h : v = (-9) ∨ v = (-8) ∨ v = (-7) ∨ v = (-6) ∨ v = 0 ∨ v = 1 ∨ v = 2 ∨ v = 3 ∨ v = 4 ∨ v = 5 ∨ v = 6 ∨ v = 7 ∨ v = 8 ∨ v = 9 ∨ v = 10 ∨ v = 11 ∨ v = 12 := by omega
    rcases h with rfl | rfl | rfl | rfl | rfl | rfl | rfl | rfl | rfl | rfl | rfl | rfl | rfl | rfl | rfl | rfl | rfl
    · exact ⟨tuC_m9_3, _, tuJ_m9_3, fun T V h1 h2 => tuV_m9_3 h1 h2⟩
    · exact ⟨tuC_m8_3, _, tuJ_m8_3, fun T V h1 h2 => tuV_m8_3 h1 h2⟩
    · exact ⟨tuC_m7_3, _, tuJ_m7_3, fun T V h1 h2 => tuV_m7_3 h1 h2⟩
    · exact ⟨tuC_m6_3, _, tuJ_m6_3, fun T V h1 h2 => tuV_m6_3 h1 h2⟩
    · exact ⟨tuC_p0_3, _, tuJ_p0_3, fun T V h1 h2 => tuV_p0_3 h1 h2⟩
    · exact ⟨tuC_p1_3, _, tuJ_p1_3, fun T V h1 h2 => tuV_p1_3 h1 h2⟩
    · exact ⟨tuC_p2_3, _, tuJ_p2_3, fun T V h1 h2 => tuV_p2_3 h1 h2⟩
    · exact ⟨tuC_p3_3, _, tuJ_p3_3, fun T V h1 h2 => tuV_p3_3 h1 h2⟩
    · exact ⟨tuC_p4_3, _, tuJ_p4_3, fun T V h1 h2 => tuV_p4_3 h1 h2⟩
    · exact ⟨tuC_p5_3, _, tuJ_p5_3, fun T V h1 h2 => tuV_p5_3 h1 h2⟩
    · exact ⟨tuC_p6_3, _, tuJ_p6_3, fun T V h1 h2 => tuV_p6_3 h1 h2⟩
    · exact ⟨tuC_p7_3, _, tuJ_p7_3, fun T V h1 h2 => tuV_p7_3 h1 h2⟩
    · exact ⟨tuC_p8_3, _, tuJ_p8_3, fun T V h1 h2 => tuV_p8_3 h1 h2⟩
    · exact ⟨tuC_p9_3, _, tuJ_p9_3, fun T V h1 h2 => tuV_p9_3 h1 h2⟩
    · exact ⟨tuC_p10_3, _, tuJ_p10_3, fun T V h1 h2 => tuV_p10_3 h1 h2⟩
    · exact ⟨tuC_p11_3, _, tuJ_p11_3, fun T V h1 h2 => tuV_p11_3 h1 h2⟩
    · exact ⟨tuC_p12_3, _, tuJ_p12_3, fun T V h1 h2 => tuV_p12_3 h1 h2⟩) (fun T q hq => rdCsV q hq) rdCsK)
theorem tuAll : ∀ u ∈ tuLabs, tuGood u := (List.forall_mem_cons.mpr ⟨tuC288, (List.forall_mem_cons.mpr ⟨tuC361, (List.forall_mem_cons.mpr ⟨tuC389, (List.forall_mem_cons.mpr ⟨tuC417, (List.forall_mem_cons.mpr ⟨tuC445, (List.forall_mem_cons.mpr ⟨tuC458, (List.forall_mem_cons.mpr ⟨tuC486, (List.forall_mem_cons.mpr ⟨tuC514, (List.forall_mem_cons.mpr ⟨tuC542, (List.forall_mem_cons.mpr ⟨tuC597, (List.forall_mem_cons.mpr ⟨tuC637, (List.forall_mem_cons.mpr ⟨tuC689, (List.forall_mem_cons.mpr ⟨tuC702, (List.forall_mem_cons.mpr ⟨tuC715, (List.forall_mem_cons.mpr ⟨tuC772, (List.forall_mem_cons.mpr ⟨tuC797, (List.forall_mem_cons.mpr ⟨tuC825, (List.forall_mem_cons.mpr ⟨tuC853, (List.forall_mem_cons.mpr ⟨tuC881, (List.forall_mem_cons.mpr ⟨tuC921, (List.forall_mem_cons.mpr ⟨tuC949, (List.forall_mem_cons.mpr ⟨tuC962, (List.forall_mem_cons.mpr ⟨tuC990, (List.forall_mem_cons.mpr ⟨tuC1018, (List.forall_mem_cons.mpr ⟨tuC1034, (List.forall_mem_cons.mpr ⟨tuC1074, (List.forall_mem_cons.mpr ⟨tuC1114, (List.forall_mem_cons.mpr ⟨tuC1154, (List.forall_mem_cons.mpr ⟨tuC1182, (List.forall_mem_cons.mpr ⟨tuC1222, (List.forall_mem_cons.mpr ⟨tuC1250, (List.forall_mem_cons.mpr ⟨tuC1278, (List.forall_mem_cons.mpr ⟨tuC1306, (List.forall_mem_cons.mpr ⟨tuC1334, (List.forall_mem_cons.mpr ⟨tuC1386, (List.forall_mem_cons.mpr ⟨tuC1423, (List.forall_mem_cons.mpr ⟨tuC1463, (List.forall_mem_cons.mpr ⟨tuC1491, (List.forall_mem_cons.mpr ⟨tuC1519, (List.forall_mem_cons.mpr ⟨tuC1559, (List.forall_mem_cons.mpr ⟨tuC1599, (List.forall_mem_cons.mpr ⟨tuC1627, (List.forall_mem_cons.mpr ⟨tuC1655, (List.forall_mem_cons.mpr ⟨tuC1683, (List.forall_mem_cons.mpr ⟨tuC1711, (List.forall_mem_cons.mpr ⟨tuC1763, (List.forall_mem_cons.mpr ⟨tuC1803, (List.forall_mem_cons.mpr ⟨tuC1831, (List.forall_mem_cons.mpr ⟨tuC1859, (List.forall_mem_cons.mpr ⟨tuC1887, (List.forall_mem_cons.mpr ⟨tuC1912, (List.forall_mem_cons.mpr ⟨tuC1940, (List.forall_mem_cons.mpr ⟨tuC1953, (List.forall_mem_cons.mpr ⟨tuC1966, (List.forall_mem_cons.mpr ⟨tuC2030, (List.forall_mem_cons.mpr ⟨tuC2043, (List.forall_mem_cons.mpr ⟨tuC2056, (List.forall_mem_cons.mpr ⟨tuC2081, (List.forall_mem_cons.mpr ⟨tuC2106, (fun _ h => absurd h List.not_mem_nil)⟩)⟩)⟩)⟩)⟩)⟩)⟩)⟩)⟩)⟩)⟩)⟩)⟩)⟩)⟩)⟩)⟩)⟩)⟩)⟩)⟩)⟩)⟩)⟩)⟩)⟩)⟩)⟩)⟩)⟩)⟩)⟩)⟩)⟩)⟩)⟩)⟩)⟩)⟩)⟩)⟩)⟩)⟩)⟩)⟩)⟩)⟩)⟩)⟩)⟩)⟩)⟩)⟩)⟩)⟩)⟩)⟩)⟩)⟩)

end TUALL

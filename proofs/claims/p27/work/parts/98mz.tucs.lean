/-! jar's turn: contracts for its jobs -/
section TUCS
theorem cvJarM {T : Nat} {V : rdVt} : sxCtV sxKw (ghL T V) ctJarM := cv2176 ghGd
theorem cvJarM0 {T : Nat} {V : rdVt} : sxCtV sxKw (ghL T V) ctJarM0 := cv2177 ghGd
theorem rdCsV {T : Nat} {V : rdVt} : ∀ q ∈ rdCs, pxCtV sxKw (ghL T V) q.1 ∧ rdChk q.2 q.1 = true ∧ rdCov ctJarM.1 rdNeed rdMR 0 0 q.1 = true := List.forall_mem_cons.mpr ⟨⟨pv0 ghGd, by decide +kernel, by decide +kernel⟩, List.forall_mem_cons.mpr ⟨⟨pv1 ghGd, by decide +kernel, by decide +kernel⟩, List.forall_mem_cons.mpr ⟨⟨pv2 ghGd, by decide +kernel, by decide +kernel⟩, List.forall_mem_cons.mpr ⟨⟨pv3 ghGd, by decide +kernel, by decide +kernel⟩, List.forall_mem_cons.mpr ⟨⟨pv4 ghGd, by decide +kernel, by decide +kernel⟩, List.forall_mem_cons.mpr ⟨⟨pv26 ghGd, by decide +kernel, by decide +kernel⟩, fun _ h => absurd h List.not_mem_nil⟩⟩⟩⟩⟩⟩
theorem rdCsK : ∀ q ∈ rdCs, (Nat.blt q.2 579 && rdKB q.2 2 0 12) = true := fun q hq => List.all_eq_true.mp (show rdCs.all (fun q => Nat.blt q.2 579 && rdKB q.2 2 0 12) = true by decide +kernel) q hq
end TUCS

/-! PC: which methods throw nothing, by program -/
section NTK
def ntKS : List Nat := [16, 17, 18, 19, 20, 21, 24, 27, 31, 32, 33, 34, 35, 36, 37, 38, 39, 41, 42, 43, 44, 45, 46, 47, 49, 82, 83, 84, 85, 86, 88, 89, 90, 91, 92, 93, 94, 96, 191, 329]
set_option maxRecDepth 1000000 in
theorem ntAll1 : ntKS.all (ntOk ntKS) = true := by decide +kernel
theorem ntAll : ∀ k, k ∈ ntKS → ntOk ntKS k = true := fun k hk => List.all_eq_true.mp ntAll1 k hk
theorem nt_JarReader_read : 31 ∈ ntKS := by decide +kernel
theorem nt_Tape_begin : 82 ∈ ntKS := by decide +kernel
theorem nt_Setting_begin : 49 ∈ ntKS := by decide +kernel
theorem nt_Tongue_clear : 96 ∈ ntKS := by decide +kernel
theorem nt_LotBeliefs_forgetSurveys : 191 ∈ ntKS := by decide +kernel
end NTK

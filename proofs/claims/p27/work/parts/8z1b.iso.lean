/-! SX: isSo, by hand: further turns -/
section SXISO
set_option maxRecDepth 1000000 in
theorem isTk2_ok : (List.range 22).all (fun i => isTk (44 + i)) = true := by decide +kernel
set_option maxRecDepth 1000000 in
theorem isTk3_ok : (List.range 22).all (fun i => isTk (66 + i)) = true := by decide +kernel
end SXISO

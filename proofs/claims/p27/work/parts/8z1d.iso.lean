/-! SX: isSo, by hand: further turns -/
section SXISO
set_option maxRecDepth 1000000 in
theorem isTk6_ok : (List.range 22).all (fun i => isTk (132 + i)) = true := by decide +kernel
set_option maxRecDepth 1000000 in
theorem isTk7_ok : (List.range 22).all (fun i => isTk (154 + i)) = true := by decide +kernel
end SXISO

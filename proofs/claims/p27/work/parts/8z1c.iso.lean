/-! SX: isSo, by hand: further turns -/
section SXISO
set_option maxRecDepth 1000000 in
theorem isTk4_ok : (List.range 22).all (fun i => isTk (88 + i)) = true := by decide +kernel
set_option maxRecDepth 1000000 in
theorem isTk5_ok : (List.range 22).all (fun i => isTk (110 + i)) = true := by decide +kernel
end SXISO

/-! SX: isSo, by hand: further turns -/
section SXISO
set_option maxRecDepth 1000000 in
theorem isTk8_ok : (List.range 22).all (fun i => isTk (176 + i)) = true := by decide +kernel
set_option maxRecDepth 1000000 in
theorem isTk9_ok : (List.range 22).all (fun i => isTk (198 + i)) = true := by decide +kernel
end SXISO

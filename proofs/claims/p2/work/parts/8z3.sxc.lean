/-! SX: what was shown by hand, by name -/
section SXI
theorem cvIso0 (_ : sxGd sxKw ghL) : sxCtV sxKw ghL (ctIso 0) := isIso (by decide)
theorem cvIso1 (_ : sxGd sxKw ghL) : sxCtV sxKw ghL (ctIso 1) := isIso (by decide)
theorem cvIso2 (_ : sxGd sxKw ghL) : sxCtV sxKw ghL (ctIso 2) := isIso (by decide)
theorem cvIso3 (_ : sxGd sxKw ghL) : sxCtV sxKw ghL (ctIso 3) := isIso (by decide)
theorem cvIso4 (_ : sxGd sxKw ghL) : sxCtV sxKw ghL (ctIso 4) := isIso (by decide)
theorem cvIso5 (_ : sxGd sxKw ghL) : sxCtV sxKw ghL (ctIso 5) := isIso (by decide)
theorem cvIso6 (_ : sxGd sxKw ghL) : sxCtV sxKw ghL (ctIso 6) := isIso (by decide)
theorem cvIso7 (_ : sxGd sxKw ghL) : sxCtV sxKw ghL (ctIso 7) := isIso (by decide)
theorem cvIso8 (_ : sxGd sxKw ghL) : sxCtV sxKw ghL (ctIso 8) := isIso (by decide)
theorem cvIso9 (_ : sxGd sxKw ghL) : sxCtV sxKw ghL (ctIso 9) := isIso (by decide)
theorem cvTng (_ : sxGd sxKw ghL) : sxCtV sxKw ghL ctTng := isTng
end SXI

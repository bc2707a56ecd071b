/-! SX: what was shown by hand, by name -/
section SXI
theorem cvIso0 {T : Nat} {V : rdVt} (_ : sxGd sxKw (ghL T V)) : sxCtV sxKw (ghL T V) (ctIso 0) := isIso (by decide)
theorem cvIso1 {T : Nat} {V : rdVt} (_ : sxGd sxKw (ghL T V)) : sxCtV sxKw (ghL T V) (ctIso 1) := isIso (by decide)
theorem cvIso2 {T : Nat} {V : rdVt} (_ : sxGd sxKw (ghL T V)) : sxCtV sxKw (ghL T V) (ctIso 2) := isIso (by decide)
theorem cvIso3 {T : Nat} {V : rdVt} (_ : sxGd sxKw (ghL T V)) : sxCtV sxKw (ghL T V) (ctIso 3) := isIso (by decide)
theorem cvIso4 {T : Nat} {V : rdVt} (_ : sxGd sxKw (ghL T V)) : sxCtV sxKw (ghL T V) (ctIso 4) := isIso (by decide)
theorem cvIso5 {T : Nat} {V : rdVt} (_ : sxGd sxKw (ghL T V)) : sxCtV sxKw (ghL T V) (ctIso 5) := isIso (by decide)
theorem cvIso6 {T : Nat} {V : rdVt} (_ : sxGd sxKw (ghL T V)) : sxCtV sxKw (ghL T V) (ctIso 6) := isIso (by decide)
theorem cvIso7 {T : Nat} {V : rdVt} (_ : sxGd sxKw (ghL T V)) : sxCtV sxKw (ghL T V) (ctIso 7) := isIso (by decide)
theorem cvIso8 {T : Nat} {V : rdVt} (_ : sxGd sxKw (ghL T V)) : sxCtV sxKw (ghL T V) (ctIso 8) := isIso (by decide)
theorem cvIso9 {T : Nat} {V : rdVt} (_ : sxGd sxKw (ghL T V)) : sxCtV sxKw (ghL T V) (ctIso 9) := isIso (by decide)
theorem cvTng {T : Nat} {V : rdVt} (_ : sxGd sxKw (ghL T V)) : sxCtV sxKw (ghL T V) ctTng := isTng
end SXI

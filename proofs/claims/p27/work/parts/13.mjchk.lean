/-! MJ: the tables are what the class files say -/
section MJCHK
set_option maxRecDepth 1000000 in
theorem ck_t0 : (List.range 16).all (fun j => mjTB (0 + j)) = true := by decide +kernel
set_option maxRecDepth 1000000 in
theorem ck_t1 : (List.range 16).all (fun j => mjTB (16 + j)) = true := by decide +kernel
set_option maxRecDepth 1000000 in
theorem ck_t2 : (List.range 16).all (fun j => mjTB (32 + j)) = true := by decide +kernel
set_option maxRecDepth 1000000 in
theorem ck_t3 : (List.range 16).all (fun j => mjTB (48 + j)) = true := by decide +kernel
set_option maxRecDepth 1000000 in
theorem ck_t4 : (List.range 16).all (fun j => mjTB (64 + j)) = true := by decide +kernel
set_option maxRecDepth 1000000 in
theorem ck_t5 : (List.range 16).all (fun j => mjTB (80 + j)) = true := by decide +kernel
set_option maxRecDepth 1000000 in
theorem ck_t6 : (List.range 16).all (fun j => mjTB (96 + j)) = true := by decide +kernel
set_option maxRecDepth 1000000 in
theorem ck_t7 : (List.range 16).all (fun j => mjTB (112 + j)) = true := by decide +kernel
set_option maxRecDepth 1000000 in
theorem ck_t8 : (List.range 16).all (fun j => mjTB (128 + j)) = true := by decide +kernel
set_option maxRecDepth 1000000 in
theorem ck_t9 : (List.range 16).all (fun j => mjTB (144 + j)) = true := by decide +kernel
set_option maxRecDepth 1000000 in
theorem ck_t10 : (List.range 16).all (fun j => mjTB (160 + j)) = true := by decide +kernel
set_option maxRecDepth 1000000 in
theorem ck_t11 : (List.range 16).all (fun j => mjTB (176 + j)) = true := by decide +kernel
set_option maxRecDepth 1000000 in
theorem ck_t12 : (List.range 16).all (fun j => mjTB (192 + j)) = true := by decide +kernel
set_option maxRecDepth 1000000 in
theorem ck_t13 : (List.range 16).all (fun j => mjTB (208 + j)) = true := by decide +kernel
set_option maxRecDepth 1000000 in
theorem ck_t14 : (List.range 16).all (fun j => mjTB (224 + j)) = true := by decide +kernel
set_option maxRecDepth 1000000 in
theorem ck_t15 : (List.range 16).all (fun j => mjTB (240 + j)) = true := by decide +kernel
set_option maxRecDepth 1000000 in
theorem ck_t16 : (List.range 16).all (fun j => mjTB (256 + j)) = true := by decide +kernel
set_option maxRecDepth 1000000 in
theorem ck_t17 : (List.range 16).all (fun j => mjTB (272 + j)) = true := by decide +kernel
set_option maxRecDepth 1000000 in
theorem ck_t18 : (List.range 16).all (fun j => mjTB (288 + j)) = true := by decide +kernel
set_option maxRecDepth 1000000 in
theorem ck_t19 : (List.range 16).all (fun j => mjTB (304 + j)) = true := by decide +kernel
set_option maxRecDepth 1000000 in
theorem ck_t20 : (List.range 16).all (fun j => mjTB (320 + j)) = true := by decide +kernel
set_option maxRecDepth 1000000 in
theorem ck_t21 : (List.range 16).all (fun j => mjTB (336 + j)) = true := by decide +kernel
set_option maxRecDepth 1000000 in
theorem ck_t22 : (List.range 16).all (fun j => mjTB (352 + j)) = true := by decide +kernel
set_option maxRecDepth 1000000 in
theorem ck_t23 : (List.range 5).all (fun j => mjTB (368 + j)) = true := by decide +kernel
set_option maxRecDepth 1000000 in
theorem ck_law : mjTB 373 = true := by decide +kernel
set_option maxRecDepth 1000000 in
theorem ck_m0 : (List.range 64).all (fun j => mjMB (0 + j)) = true := by decide +kernel
set_option maxRecDepth 1000000 in
theorem ck_p0 : (List.range 64).all (fun j => mjPB (0 + j)) = true := by decide +kernel
set_option maxRecDepth 1000000 in
theorem ck_m1 : (List.range 64).all (fun j => mjMB (64 + j)) = true := by decide +kernel
set_option maxRecDepth 1000000 in
theorem ck_p1 : (List.range 64).all (fun j => mjPB (64 + j)) = true := by decide +kernel
set_option maxRecDepth 1000000 in
theorem ck_m2 : (List.range 64).all (fun j => mjMB (128 + j)) = true := by decide +kernel
set_option maxRecDepth 1000000 in
theorem ck_p2 : (List.range 64).all (fun j => mjPB (128 + j)) = true := by decide +kernel
set_option maxRecDepth 1000000 in
theorem ck_m3 : (List.range 64).all (fun j => mjMB (192 + j)) = true := by decide +kernel
set_option maxRecDepth 1000000 in
theorem ck_p3 : (List.range 64).all (fun j => mjPB (192 + j)) = true := by decide +kernel
set_option maxRecDepth 1000000 in
theorem ck_m4 : (List.range 64).all (fun j => mjMB (256 + j)) = true := by decide +kernel
set_option maxRecDepth 1000000 in
theorem ck_p4 : (List.range 64).all (fun j => mjPB (256 + j)) = true := by decide +kernel
set_option maxRecDepth 1000000 in
theorem ck_m5 : (List.range 53).all (fun j => mjMB (320 + j)) = true := by decide +kernel
set_option maxRecDepth 1000000 in
theorem ck_p5 : (List.range 53).all (fun j => mjPB (320 + j)) = true := by decide +kernel
theorem ck_up {f : Nat → Bool} {n a k : Nat} (h : (List.range n).all (fun j => f (a + j)) = true) (h1 : a ≤ k) (h2 : k < a + n) : f k = true := by
  have := List.all_eq_true.mp h (k - a) (List.mem_range.mpr (by omega))
  rwa [show a + (k - a) = k by omega] at this
theorem mjTB_ok {k : Nat} (hk : k < 373) : mjTB k = true := by
  rcases Nat.lt_or_ge k 16 with h0 | h0
  · exact ck_up ck_t0 (by omega) (by omega)
  rcases Nat.lt_or_ge k 32 with h1 | h1
  · exact ck_up ck_t1 (by omega) (by omega)
  rcases Nat.lt_or_ge k 48 with h2 | h2
  · exact ck_up ck_t2 (by omega) (by omega)
  rcases Nat.lt_or_ge k 64 with h3 | h3
  · exact ck_up ck_t3 (by omega) (by omega)
  rcases Nat.lt_or_ge k 80 with h4 | h4
  · exact ck_up ck_t4 (by omega) (by omega)
  rcases Nat.lt_or_ge k 96 with h5 | h5
  · exact ck_up ck_t5 (by omega) (by omega)
  rcases Nat.lt_or_ge k 112 with h6 | h6
  · exact ck_up ck_t6 (by omega) (by omega)
  rcases Nat.lt_or_ge k 128 with h7 | h7
  · exact ck_up ck_t7 (by omega) (by omega)
  rcases Nat.lt_or_ge k 144 with h8 | h8
  · exact ck_up ck_t8 (by omega) (by omega)
  rcases Nat.lt_or_ge k 160 with h9 | h9
  · exact ck_up ck_t9 (by omega) (by omega)
  rcases Nat.lt_or_ge k 176 with h10 | h10
  · exact ck_up ck_t10 (by omega) (by omega)
  rcases Nat.lt_or_ge k 192 with h11 | h11
  · exact ck_up ck_t11 (by omega) (by omega)
  rcases Nat.lt_or_ge k 208 with h12 | h12
  · exact ck_up ck_t12 (by omega) (by omega)
  rcases Nat.lt_or_ge k 224 with h13 | h13
  · exact ck_up ck_t13 (by omega) (by omega)
  rcases Nat.lt_or_ge k 240 with h14 | h14
  · exact ck_up ck_t14 (by omega) (by omega)
  rcases Nat.lt_or_ge k 256 with h15 | h15
  · exact ck_up ck_t15 (by omega) (by omega)
  rcases Nat.lt_or_ge k 272 with h16 | h16
  · exact ck_up ck_t16 (by omega) (by omega)
  rcases Nat.lt_or_ge k 288 with h17 | h17
  · exact ck_up ck_t17 (by omega) (by omega)
  rcases Nat.lt_or_ge k 304 with h18 | h18
  · exact ck_up ck_t18 (by omega) (by omega)
  rcases Nat.lt_or_ge k 320 with h19 | h19
  · exact ck_up ck_t19 (by omega) (by omega)
  rcases Nat.lt_or_ge k 336 with h20 | h20
  · exact ck_up ck_t20 (by omega) (by omega)
  rcases Nat.lt_or_ge k 352 with h21 | h21
  · exact ck_up ck_t21 (by omega) (by omega)
  rcases Nat.lt_or_ge k 368 with h22 | h22
  · exact ck_up ck_t22 (by omega) (by omega)
  exact ck_up ck_t23 (by omega) (by omega)
theorem mjMB_ok {k : Nat} (hk : k < 373) : mjMB k = true := by
  rcases Nat.lt_or_ge k 64 with h0 | h0
  · exact ck_up ck_m0 (by omega) (by omega)
  rcases Nat.lt_or_ge k 128 with h1 | h1
  · exact ck_up ck_m1 (by omega) (by omega)
  rcases Nat.lt_or_ge k 192 with h2 | h2
  · exact ck_up ck_m2 (by omega) (by omega)
  rcases Nat.lt_or_ge k 256 with h3 | h3
  · exact ck_up ck_m3 (by omega) (by omega)
  rcases Nat.lt_or_ge k 320 with h4 | h4
  · exact ck_up ck_m4 (by omega) (by omega)
  exact ck_up ck_m5 (by omega) (by omega)
theorem mjPB_ok {k : Nat} (hk : k < 373) : mjPB k = true := by
  rcases Nat.lt_or_ge k 64 with h0 | h0
  · exact ck_up ck_p0 (by omega) (by omega)
  rcases Nat.lt_or_ge k 128 with h1 | h1
  · exact ck_up ck_p1 (by omega) (by omega)
  rcases Nat.lt_or_ge k 192 with h2 | h2
  · exact ck_up ck_p2 (by omega) (by omega)
  rcases Nat.lt_or_ge k 256 with h3 | h3
  · exact ck_up ck_p3 (by omega) (by omega)
  rcases Nat.lt_or_ge k 320 with h4 | h4
  · exact ck_up ck_p4 (by omega) (by omega)
  exact ck_up ck_p5 (by omega) (by omega)
end MJCHK

/-! PC: turns that leave what stands at the head as it is, by program -/
section LWI
variable {H H2 : mjH} {J Q : Nat} {ru : tgRu} {y : Nat → Int32} {w : Int}
theorem li_0 (hI : pI H J Q ru) (q : lq_0 y H H2) : pI H2 J Q ru := by
  obtain ⟨t, e⟩ := lf_0 hI.1 q
  exact pI_cg hI t (fun a b f _ => e a b (djA_ok (F := fpI) (by decide +kernel) f) (djA_ok (F := fpI) (by decide +kernel) f))
theorem li_2 (hI : pI H J Q ru) (q : lq_2 y H H2) : pI H2 J Q ru := by
  obtain ⟨t, e⟩ := lf_2 hI.1 q
  exact pI_cg hI t (fun a b f _ => e a b (djA_ok (F := fpI) (by decide +kernel) f) (djA_ok (F := fpI) (by decide +kernel) f))
theorem li_4 (hI : pI H J Q ru) (q : lq_4 y H H2) : pI H2 J Q ru := by
  obtain ⟨t, e⟩ := lf_4 hI.1 q
  exact pI_cg hI t (fun a b f _ => e a b (djA_ok (F := fpI) (by decide +kernel) f) (djA_ok (F := fpI) (by decide +kernel) f))
theorem li_5 (hI : pI H J Q ru) (q : lq_5 y H H2) : pI H2 J Q ru := by
  obtain ⟨t, e⟩ := lf_5 hI.1 q
  exact pI_cg hI t (fun a b f _ => e a b (djA_ok (F := fpI) (by decide +kernel) f) (djA_ok (F := fpI) (by decide +kernel) f))
theorem li_6 (hI : pI H J Q ru) (q : lq_6 y H H2) : pI H2 J Q ru := by
  obtain ⟨t, e⟩ := lf_6 hI.1 q
  exact pI_cg hI t (fun a b f _ => e a b (djA_ok (F := fpI) (by decide +kernel) f) (djA_ok (F := fpI) (by decide +kernel) f))
theorem li_7 (hI : pI H J Q ru) (q : lq_7 y H H2) : pI H2 J Q ru := by
  obtain ⟨t, e⟩ := lf_7 hI.1 q
  exact pI_cg hI t (fun a b f _ => e a b (djA_ok (F := fpI) (by decide +kernel) f) (djA_ok (F := fpI) (by decide +kernel) f))
theorem li_8 (hI : pI H J Q ru) (q : lq_8 y H H2) : pI H2 J Q ru := by
  obtain ⟨t, e⟩ := lf_8 hI.1 q
  exact pI_cg hI t (fun a b f _ => e a b (djA_ok (F := fpI) (by decide +kernel) f) (djA_ok (F := fpI) (by decide +kernel) f))
theorem li_9 (hI : pI H J Q ru) (q : lq_9 y H H2) : pI H2 J Q ru := by
  obtain ⟨t, e⟩ := lf_9 hI.1 q
  exact pI_cg hI t (fun a b f _ => e a b (djA_ok (F := fpI) (by decide +kernel) f) (djA_ok (F := fpI) (by decide +kernel) f))
theorem li_10 (hI : pI H J Q ru) (q : lq_10 y H H2) : pI H2 J Q ru := by
  obtain ⟨t, e⟩ := lf_10 hI.1 q
  exact pI_cg hI t (fun a b f _ => e a b (djA_ok (F := fpI) (by decide +kernel) f) (djA_ok (F := fpI) (by decide +kernel) f))
theorem li_11 (hI : pI H J Q ru) (q : lq_11 y H H2) : pI H2 J Q ru := by
  obtain ⟨t, e⟩ := lf_11 hI.1 q
  exact pI_cg hI t (fun a b f _ => e a b (djA_ok (F := fpI) (by decide +kernel) f) (djA_ok (F := fpI) (by decide +kernel) f))
theorem li_12 (hI : pI H J Q ru) (q : lq_12 y H H2) : pI H2 J Q ru := by
  obtain ⟨t, e⟩ := lf_12 hI.1 q
  exact pI_cg hI t (fun a b f _ => e a b (djA_ok (F := fpI) (by decide +kernel) f) (djA_ok (F := fpI) (by decide +kernel) f))
theorem li_13 (hI : pI H J Q ru) (q : lq_13 y H H2) : pI H2 J Q ru := by
  obtain ⟨t, e⟩ := lf_13 hI.1 q
  exact pI_cg hI t (fun a b f _ => e a b (djA_ok (F := fpI) (by decide +kernel) f) (djA_ok (F := fpI) (by decide +kernel) f))
theorem li_14 (hI : pI H J Q ru) (q : lq_14 y H H2) : pI H2 J Q ru := by
  obtain ⟨t, e⟩ := lf_14 hI.1 q
  exact pI_cg hI t (fun a b f _ => e a b (djA_ok (F := fpI) (by decide +kernel) f) (djA_ok (F := fpI) (by decide +kernel) f))
theorem li_15 (hI : pI H J Q ru) (q : lq_15 y H H2) : pI H2 J Q ru := by
  obtain ⟨t, e⟩ := lf_15 hI.1 q
  exact pI_cg hI t (fun a b f _ => e a b (djA_ok (F := fpI) (by decide +kernel) f) (djA_ok (F := fpI) (by decide +kernel) f))
theorem li_16 (hI : pI H J Q ru) (q : lq_16 y H H2) : pI H2 J Q ru := by
  obtain ⟨t, e⟩ := lf_16 hI.1 q
  exact pI_cg hI t (fun a b f _ => e a b (djA_ok (F := fpI) (by decide +kernel) f) (djA_ok (F := fpI) (by decide +kernel) f))
theorem li_17 (hI : pI H J Q ru) (q : lq_17 y H H2) : pI H2 J Q ru := by
  obtain ⟨t, e⟩ := lf_17 hI.1 q
  exact pI_cg hI t (fun a b f _ => e a b (djA_ok (F := fpI) (by decide +kernel) f) (djA_ok (F := fpI) (by decide +kernel) f))
theorem li_18 (hI : pI H J Q ru) (q : lq_18 y H H2) : pI H2 J Q ru := by
  obtain ⟨t, e⟩ := lf_18 hI.1 q
  exact pI_cg hI t (fun a b f _ => e a b (djA_ok (F := fpI) (by decide +kernel) f) (djA_ok (F := fpI) (by decide +kernel) f))
theorem li_19 (hI : pI H J Q ru) (q : lq_19 y H H2) : pI H2 J Q ru := by
  obtain ⟨t, e⟩ := lf_19 hI.1 q
  exact pI_cg hI t (fun a b f _ => e a b (djA_ok (F := fpI) (by decide +kernel) f) (djA_ok (F := fpI) (by decide +kernel) f))
theorem li_20 (hI : pI H J Q ru) (q : lq_20 y H H2) : pI H2 J Q ru := by
  obtain ⟨t, e⟩ := lf_20 hI.1 q
  exact pI_cg hI t (fun a b f _ => e a b (djA_ok (F := fpI) (by decide +kernel) f) (djA_ok (F := fpI) (by decide +kernel) f))
theorem li_21 (hI : pI H J Q ru) (q : lq_21 y H H2) : pI H2 J Q ru := by
  obtain ⟨t, e⟩ := lf_21 hI.1 q
  exact pI_cg hI t (fun a b f _ => e a b (djA_ok (F := fpI) (by decide +kernel) f) (djA_ok (F := fpI) (by decide +kernel) f))
theorem li_22 (hI : pI H J Q ru) (q : lq_22 y H H2) : pI H2 J Q ru := by
  obtain ⟨t, e⟩ := lf_22 hI.1 q
  exact pI_cg hI t (fun a b f _ => e a b (djA_ok (F := fpI) (by decide +kernel) f) (djA_ok (F := fpI) (by decide +kernel) f))
theorem li_23 (hI : pI H J Q ru) (q : lq_23 y H H2) : pI H2 J Q ru := by
  obtain ⟨t, e⟩ := lf_23 hI.1 q
  exact pI_cg hI t (fun a b f _ => e a b (djA_ok (F := fpI) (by decide +kernel) f) (djA_ok (F := fpI) (by decide +kernel) f))
theorem li_24 (hI : pI H J Q ru) (q : lq_24 y H H2) : pI H2 J Q ru := by
  obtain ⟨t, e⟩ := lf_24 hI.1 q
  exact pI_cg hI t (fun a b f _ => e a b (djA_ok (F := fpI) (by decide +kernel) f) (djA_ok (F := fpI) (by decide +kernel) f))
theorem li_25 (hI : pI H J Q ru) (q : lq_25 y H H2) : pI H2 J Q ru := by
  obtain ⟨t, e⟩ := lf_25 hI.1 q
  exact pI_cg hI t (fun a b f _ => e a b (djA_ok (F := fpI) (by decide +kernel) f) (djA_ok (F := fpI) (by decide +kernel) f))
theorem li_26 (hI : pI H J Q ru) (q : lq_26 y H H2) : pI H2 J Q ru := by
  obtain ⟨t, e⟩ := lf_26 hI.1 q
  exact pI_cg hI t (fun a b f _ => e a b (djA_ok (F := fpI) (by decide +kernel) f) (djA_ok (F := fpI) (by decide +kernel) f))
theorem li_27 (hI : pI H J Q ru) (q : lq_27 y H H2) : pI H2 J Q ru := by
  obtain ⟨t, e⟩ := lf_27 hI.1 q
  exact pI_cg hI t (fun a b f _ => e a b (djA_ok (F := fpI) (by decide +kernel) f) (djA_ok (F := fpI) (by decide +kernel) f))
theorem li_28 (hI : pI H J Q ru) (q : lq_28 y H H2) : pI H2 J Q ru := by
  obtain ⟨t, e⟩ := lf_28 hI.1 q
  exact pI_cg hI t (fun a b f _ => e a b (djA_ok (F := fpI) (by decide +kernel) f) (djA_ok (F := fpI) (by decide +kernel) f))
theorem li_30 (hI : pI H J Q ru) (q : lq_30 y H H2) : pI H2 J Q ru := by
  obtain ⟨t, e⟩ := lf_30 hI.1 q
  exact pI_cg hI t (fun a b f _ => e a b (djA_ok (F := fpI) (by decide +kernel) f) (djA_ok (F := fpI) (by decide +kernel) f))
theorem li_31 (hI : pI H J Q ru) (q : lq_31 y H H2) : pI H2 J Q ru := by
  obtain ⟨t, e⟩ := lf_31 hI.1 q
  exact pI_cg hI t (fun a b f _ => e a b (djA_ok (F := fpI) (by decide +kernel) f) (djA_ok (F := fpI) (by decide +kernel) f))
theorem li_32 (hI : pI H J Q ru) (q : lq_32 y H H2) : pI H2 J Q ru := by
  obtain ⟨t, e⟩ := lf_32 hI.1 q
  exact pI_cg hI t (fun a b f _ => e a b (djA_ok (F := fpI) (by decide +kernel) f) (djA_ok (F := fpI) (by decide +kernel) f))
theorem li_33 (hI : pI H J Q ru) (q : lq_33 y H H2) : pI H2 J Q ru := by
  obtain ⟨t, e⟩ := lf_33 hI.1 q
  exact pI_cg hI t (fun a b f _ => e a b (djA_ok (F := fpI) (by decide +kernel) f) (djA_ok (F := fpI) (by decide +kernel) f))
theorem li_34 (hI : pI H J Q ru) (q : lq_34 y H H2) : pI H2 J Q ru := by
  obtain ⟨t, e⟩ := lf_34 hI.1 q
  exact pI_cg hI t (fun a b f _ => e a b (djA_ok (F := fpI) (by decide +kernel) f) (djA_ok (F := fpI) (by decide +kernel) f))
theorem li_35 (hI : pI H J Q ru) (q : lq_35 y H H2) : pI H2 J Q ru := by
  obtain ⟨t, e⟩ := lf_35 hI.1 q
  exact pI_cg hI t (fun a b f _ => e a b (djA_ok (F := fpI) (by decide +kernel) f) (djA_ok (F := fpI) (by decide +kernel) f))
theorem li_36 (hI : pI H J Q ru) (q : lq_36 y H H2) : pI H2 J Q ru := by
  obtain ⟨t, e⟩ := lf_36 hI.1 q
  exact pI_cg hI t (fun a b f _ => e a b (djA_ok (F := fpI) (by decide +kernel) f) (djA_ok (F := fpI) (by decide +kernel) f))
theorem li_37 (hI : pI H J Q ru) (q : lq_37 y H H2) : pI H2 J Q ru := by
  obtain ⟨t, e⟩ := lf_37 hI.1 q
  exact pI_cg hI t (fun a b f _ => e a b (djA_ok (F := fpI) (by decide +kernel) f) (djA_ok (F := fpI) (by decide +kernel) f))
theorem li_38 (hI : pI H J Q ru) (q : lq_38 y H H2) : pI H2 J Q ru := by
  obtain ⟨t, e⟩ := lf_38 hI.1 q
  exact pI_cg hI t (fun a b f _ => e a b (djA_ok (F := fpI) (by decide +kernel) f) (djA_ok (F := fpI) (by decide +kernel) f))
theorem li_39 (hI : pI H J Q ru) (q : lq_39 y H H2) : pI H2 J Q ru := by
  obtain ⟨t, e⟩ := lf_39 hI.1 q
  exact pI_cg hI t (fun a b f _ => e a b (djA_ok (F := fpI) (by decide +kernel) f) (djA_ok (F := fpI) (by decide +kernel) f))
theorem li_40 (hI : pI H J Q ru) (q : lq_40 y H H2) : pI H2 J Q ru := by
  obtain ⟨t, e⟩ := lf_40 hI.1 q
  exact pI_cg hI t (fun a b f _ => e a b (djA_ok (F := fpI) (by decide +kernel) f) (djA_ok (F := fpI) (by decide +kernel) f))
theorem li_41 (hI : pI H J Q ru) (q : lq_41 y H H2) : pI H2 J Q ru := by
  obtain ⟨t, e⟩ := lf_41 hI.1 q
  exact pI_cg hI t (fun a b f _ => e a b (djA_ok (F := fpI) (by decide +kernel) f) (djA_ok (F := fpI) (by decide +kernel) f))
theorem li_42 (hI : pI H J Q ru) (q : lq_42 y H H2) : pI H2 J Q ru := by
  obtain ⟨t, e⟩ := lf_42 hI.1 q
  exact pI_cg hI t (fun a b f _ => e a b (djA_ok (F := fpI) (by decide +kernel) f) (djA_ok (F := fpI) (by decide +kernel) f))
theorem li_43 (hI : pI H J Q ru) (q : lq_43 y H H2) : pI H2 J Q ru := by
  obtain ⟨t, e⟩ := lf_43 hI.1 q
  exact pI_cg hI t (fun a b f _ => e a b (djA_ok (F := fpI) (by decide +kernel) f) (djA_ok (F := fpI) (by decide +kernel) f))
theorem li_44 (hI : pI H J Q ru) (q : lq_44 y H H2) : pI H2 J Q ru := by
  obtain ⟨t, e⟩ := lf_44 hI.1 q
  exact pI_cg hI t (fun a b f _ => e a b (djA_ok (F := fpI) (by decide +kernel) f) (djA_ok (F := fpI) (by decide +kernel) f))
theorem li_45 (hI : pI H J Q ru) (q : lq_45 y H H2) : pI H2 J Q ru := by
  obtain ⟨t, e⟩ := lf_45 hI.1 q
  exact pI_cg hI t (fun a b f _ => e a b (djA_ok (F := fpI) (by decide +kernel) f) (djA_ok (F := fpI) (by decide +kernel) f))
theorem li_46 (hI : pI H J Q ru) (q : lq_46 y H H2) : pI H2 J Q ru := by
  obtain ⟨t, e⟩ := lf_46 hI.1 q
  exact pI_cg hI t (fun a b f _ => e a b (djA_ok (F := fpI) (by decide +kernel) f) (djA_ok (F := fpI) (by decide +kernel) f))
theorem li_47 (hI : pI H J Q ru) (q : lq_47 y H H2) : pI H2 J Q ru := by
  obtain ⟨t, e⟩ := lf_47 hI.1 q
  exact pI_cg hI t (fun a b f _ => e a b (djA_ok (F := fpI) (by decide +kernel) f) (djA_ok (F := fpI) (by decide +kernel) f))
theorem li_48 (hI : pI H J Q ru) (q : lq_48 y H H2) : pI H2 J Q ru := by
  obtain ⟨t, e⟩ := lf_48 hI.1 q
  exact pI_cg hI t (fun a b f _ => e a b (djA_ok (F := fpI) (by decide +kernel) f) (djA_ok (F := fpI) (by decide +kernel) f))
theorem li_49 (hI : pI H J Q ru) (q : lq_49 y H H2) : pI H2 J Q ru := by
  obtain ⟨t, e⟩ := lf_49 hI.1 q
  exact pI_cg hI t (fun a b f _ => e a b (djA_ok (F := fpI) (by decide +kernel) f) (djA_ok (F := fpI) (by decide +kernel) f))
theorem li_50 (hI : pI H J Q ru) (q : lq_50 y H H2) : pI H2 J Q ru := by
  obtain ⟨t, e⟩ := lf_50 hI.1 q
  exact pI_cg hI t (fun a b f _ => e a b (djA_ok (F := fpI) (by decide +kernel) f) (djA_ok (F := fpI) (by decide +kernel) f))
theorem li_51 (hI : pI H J Q ru) (q : lq_51 y H H2) : pI H2 J Q ru := by
  obtain ⟨t, e⟩ := lf_51 hI.1 q
  exact pI_cg hI t (fun a b f _ => e a b (djA_ok (F := fpI) (by decide +kernel) f) (djA_ok (F := fpI) (by decide +kernel) f))
theorem li_52 (hI : pI H J Q ru) (q : lq_52 y H H2) : pI H2 J Q ru := by
  obtain ⟨t, e⟩ := lf_52 hI.1 q
  exact pI_cg hI t (fun a b f _ => e a b (djA_ok (F := fpI) (by decide +kernel) f) (djA_ok (F := fpI) (by decide +kernel) f))
theorem li_53 (hI : pI H J Q ru) (q : lq_53 y H H2) : pI H2 J Q ru := by
  obtain ⟨t, e⟩ := lf_53 hI.1 q
  exact pI_cg hI t (fun a b f _ => e a b (djA_ok (F := fpI) (by decide +kernel) f) (djA_ok (F := fpI) (by decide +kernel) f))
theorem li_54 (hI : pI H J Q ru) (q : lq_54 y H H2) : pI H2 J Q ru := by
  obtain ⟨t, e⟩ := lf_54 hI.1 q
  exact pI_cg hI t (fun a b f _ => e a b (djA_ok (F := fpI) (by decide +kernel) f) (djA_ok (F := fpI) (by decide +kernel) f))
theorem li_55 (hI : pI H J Q ru) (q : lq_55 y H H2) : pI H2 J Q ru := by
  obtain ⟨t, e⟩ := lf_55 hI.1 q
  exact pI_cg hI t (fun a b f _ => e a b (djA_ok (F := fpI) (by decide +kernel) f) (djA_ok (F := fpI) (by decide +kernel) f))
theorem li_56 (hI : pI H J Q ru) (q : lq_56 y H H2) : pI H2 J Q ru := by
  obtain ⟨t, e⟩ := lf_56 hI.1 q
  exact pI_cg hI t (fun a b f _ => e a b (djA_ok (F := fpI) (by decide +kernel) f) (djA_ok (F := fpI) (by decide +kernel) f))
theorem li_57 (hI : pI H J Q ru) (q : lq_57 y H H2) : pI H2 J Q ru := by
  obtain ⟨t, e⟩ := lf_57 hI.1 q
  exact pI_cg hI t (fun a b f _ => e a b (djA_ok (F := fpI) (by decide +kernel) f) (djA_ok (F := fpI) (by decide +kernel) f))
theorem liF (hI : pI H J Q ru) : ∀ n : Nat, n ≠ 1 → n ≠ 3 → lqF n y H H2 → pI H2 J Q ru
  | 0, h1, h3, q => li_0 hI q
  | 1, h1, h3, q => absurd rfl h1
  | 2, h1, h3, q => li_2 hI q
  | 3, h1, h3, q => absurd rfl h3
  | 4, h1, h3, q => li_4 hI q
  | 5, h1, h3, q => li_5 hI q
  | 6, h1, h3, q => li_6 hI q
  | 7, h1, h3, q => li_7 hI q
  | 8, h1, h3, q => li_8 hI q
  | 9, h1, h3, q => li_9 hI q
  | 10, h1, h3, q => li_10 hI q
  | 11, h1, h3, q => li_11 hI q
  | 12, h1, h3, q => li_12 hI q
  | 13, h1, h3, q => li_13 hI q
  | 14, h1, h3, q => li_14 hI q
  | 15, h1, h3, q => li_15 hI q
  | 16, h1, h3, q => li_16 hI q
  | 17, h1, h3, q => li_17 hI q
  | 18, h1, h3, q => li_18 hI q
  | 19, h1, h3, q => li_19 hI q
  | 20, h1, h3, q => li_20 hI q
  | 21, h1, h3, q => li_21 hI q
  | 22, h1, h3, q => li_22 hI q
  | 23, h1, h3, q => li_23 hI q
  | 24, h1, h3, q => li_24 hI q
  | 25, h1, h3, q => li_25 hI q
  | 26, h1, h3, q => li_26 hI q
  | 27, h1, h3, q => li_27 hI q
  | 28, h1, h3, q => li_28 hI q
  | 29, h1, h3, q => q.elim
  | 30, h1, h3, q => li_30 hI q
  | 31, h1, h3, q => li_31 hI q
  | 32, h1, h3, q => li_32 hI q
  | 33, h1, h3, q => li_33 hI q
  | 34, h1, h3, q => li_34 hI q
  | 35, h1, h3, q => li_35 hI q
  | 36, h1, h3, q => li_36 hI q
  | 37, h1, h3, q => li_37 hI q
  | 38, h1, h3, q => li_38 hI q
  | 39, h1, h3, q => li_39 hI q
  | 40, h1, h3, q => li_40 hI q
  | 41, h1, h3, q => li_41 hI q
  | 42, h1, h3, q => li_42 hI q
  | 43, h1, h3, q => li_43 hI q
  | 44, h1, h3, q => li_44 hI q
  | 45, h1, h3, q => li_45 hI q
  | 46, h1, h3, q => li_46 hI q
  | 47, h1, h3, q => li_47 hI q
  | 48, h1, h3, q => li_48 hI q
  | 49, h1, h3, q => li_49 hI q
  | 50, h1, h3, q => li_50 hI q
  | 51, h1, h3, q => li_51 hI q
  | 52, h1, h3, q => li_52 hI q
  | 53, h1, h3, q => li_53 hI q
  | 54, h1, h3, q => li_54 hI q
  | 55, h1, h3, q => li_55 hI q
  | 56, h1, h3, q => li_56 hI q
  | 57, h1, h3, q => li_57 hI q
  | _ + 58, _, _, q => by
    rw [show H2 = H from q]
    exact hI
theorem liA (hI : pI H J Q ru) (h1 : w ≠ 1) (h3 : w ≠ 3) (q : lqA w y H H2) : pI H2 J Q ru := by
  unfold lqA at q
  split at q
  · rw [q]
    exact hI
  · exact liF hI _ (by omega) (by omega) q
end LWI

/-! MJ: every run -/
section MJALL
theorem ck_oi : mjIs mjOi (.instanceMethod Lib.objectInit) = true := by decide +kernel
theorem ck_oc : mjIs mjOc (.code Lib.objectInit ⟨#[0xb1]⟩ 1 none) = true := by decide +kernel
variable {l : Launch} {D : va_G} {dT : Nat → ClassId} {rec : mjRec}
theorem mj_step (hfl : l.stackTraces = false) (IH : mjGo l D dT rec) : mjGo l D dT (mjStep rec) := by
  intro scr d k pc ls st hp o hp' dc ds hrun y nL ret own hh np stt hM hk p e R s m args below meth c Q mc ms A hC ad cells slots H locs arr hc hs hR hS hKX hSX hl hK3
  unfold mjStep at hrun
  cases hx : mjAtI k pc with
  | none => rw [hx] at hrun; cases hrun
  | some x =>
    rw [hx] at hrun
    simp only [hM] at hrun
    obtain ⟨hd, hlen, hpre, hlk, hlk2, hnL⟩ := mj_row hx hM hk
    have hC' := hC
    obtain ⟨hexec, hb, hret, hlocks, hml, hown, hini, hts, htab, hroom, hmc, hms, hA⟩ := hC'
    have hret4 : ∀ (i : Instr), x.1 = i → mjLen i = 1 → (match mjRv i ret st with | some v => some ((Sum.inl v, hp, 0, 0) : mjO) | none => none) = some (o, hp', dc, ds) → W p l e R s m args below meth c H locs cells slots Q (F0 m pc arr (rls ad st)) := by
      intro i hi h1 h
      split at h
      · rename_i v hv
        simp only [Option.some.injEq, Prod.mk.injEq] at h
        obtain ⟨rfl, rfl, rfl, rfl⟩ := h
        rw [hi] at hd hlen
        have hn : x.2.1 = 1 := by rcases hlen with q | q <;> omega
        rw [hn] at hd
        rw [Nat.add_zero] at hc hs
        subst hc; subst hs
        exact hK3.1 v i st pc ad H locs arr rfl hd hv mjAg.rf hR hS
      · cases h
    obtain ⟨i, n, a, b, w⟩ := x
    cases i with
    | aaload => exact mj_plain IH hx hM hk hrun hC hc hs hR hS hKX hSX hl hK3
    | aastore => exact mj_plain IH hx hM hk hrun hC hc hs hR hS hKX hSX hl hK3
    | aconst_null => exact mj_plain IH hx hM hk hrun hC hc hs hR hS hKX hSX hl hK3
    | aload z0 => exact mj_plain IH hx hM hk hrun hC hc hs hR hS hKX hSX hl hK3
    | aload_n z0 => exact mj_plain IH hx hM hk hrun hC hc hs hR hS hKX hSX hl hK3
    | anewarray z0 => exact mj_anewarray IH hx rfl hM hk hrun hC hc hs hR hS hKX hSX hl hK3
    | areturn => exact hret4 _ rfl (by simp [mjLen]) hrun
    | arraylength => exact mj_plain IH hx hM hk hrun hC hc hs hR hS hKX hSX hl hK3
    | astore z0 => exact mj_plain IH hx hM hk hrun hC hc hs hR hS hKX hSX hl hK3
    | astore_n z0 => exact mj_plain IH hx hM hk hrun hC hc hs hR hS hKX hSX hl hK3
    | athrow => exact mj_plain IH hx hM hk hrun hC hc hs hR hS hKX hSX hl hK3
    | baload => exact mj_plain IH hx hM hk hrun hC hc hs hR hS hKX hSX hl hK3
    | bastore => exact mj_plain IH hx hM hk hrun hC hc hs hR hS hKX hSX hl hK3
    | bipush z0 => exact mj_plain IH hx hM hk hrun hC hc hs hR hS hKX hSX hl hK3
    | caload => exact mj_plain IH hx hM hk hrun hC hc hs hR hS hKX hSX hl hK3
    | castore => exact mj_plain IH hx hM hk hrun hC hc hs hR hS hKX hSX hl hK3
    | checkcast z0 => exact mj_plain IH hx hM hk hrun hC hc hs hR hS hKX hSX hl hK3
    | d2f => exact mj_plain IH hx hM hk hrun hC hc hs hR hS hKX hSX hl hK3
    | d2i => exact mj_plain IH hx hM hk hrun hC hc hs hR hS hKX hSX hl hK3
    | d2l => exact mj_plain IH hx hM hk hrun hC hc hs hR hS hKX hSX hl hK3
    | dadd => exact mj_plain IH hx hM hk hrun hC hc hs hR hS hKX hSX hl hK3
    | daload => exact mj_plain IH hx hM hk hrun hC hc hs hR hS hKX hSX hl hK3
    | dastore => exact mj_plain IH hx hM hk hrun hC hc hs hR hS hKX hSX hl hK3
    | dcmp z0 => exact mj_plain IH hx hM hk hrun hC hc hs hR hS hKX hSX hl hK3
    | dconst z0 => exact mj_plain IH hx hM hk hrun hC hc hs hR hS hKX hSX hl hK3
    | ddiv => exact mj_plain IH hx hM hk hrun hC hc hs hR hS hKX hSX hl hK3
    | dload z0 => exact mj_plain IH hx hM hk hrun hC hc hs hR hS hKX hSX hl hK3
    | dload_n z0 => exact mj_plain IH hx hM hk hrun hC hc hs hR hS hKX hSX hl hK3
    | dmul => exact mj_plain IH hx hM hk hrun hC hc hs hR hS hKX hSX hl hK3
    | dneg => exact mj_plain IH hx hM hk hrun hC hc hs hR hS hKX hSX hl hK3
    | drem => exact mj_plain IH hx hM hk hrun hC hc hs hR hS hKX hSX hl hK3
    | dreturn => exact mj_plain IH hx hM hk hrun hC hc hs hR hS hKX hSX hl hK3
    | dstore z0 => exact mj_plain IH hx hM hk hrun hC hc hs hR hS hKX hSX hl hK3
    | dstore_n z0 => exact mj_plain IH hx hM hk hrun hC hc hs hR hS hKX hSX hl hK3
    | dsub => exact mj_plain IH hx hM hk hrun hC hc hs hR hS hKX hSX hl hK3
    | dup => exact mj_plain IH hx hM hk hrun hC hc hs hR hS hKX hSX hl hK3
    | dup_x1 => exact mj_plain IH hx hM hk hrun hC hc hs hR hS hKX hSX hl hK3
    | dup_x2 => exact mj_plain IH hx hM hk hrun hC hc hs hR hS hKX hSX hl hK3
    | dup2 => exact mj_plain IH hx hM hk hrun hC hc hs hR hS hKX hSX hl hK3
    | dup2_x1 => exact mj_plain IH hx hM hk hrun hC hc hs hR hS hKX hSX hl hK3
    | dup2_x2 => exact mj_plain IH hx hM hk hrun hC hc hs hR hS hKX hSX hl hK3
    | f2d => exact mj_plain IH hx hM hk hrun hC hc hs hR hS hKX hSX hl hK3
    | f2i => exact mj_plain IH hx hM hk hrun hC hc hs hR hS hKX hSX hl hK3
    | f2l => exact mj_plain IH hx hM hk hrun hC hc hs hR hS hKX hSX hl hK3
    | fadd => exact mj_plain IH hx hM hk hrun hC hc hs hR hS hKX hSX hl hK3
    | faload => exact mj_plain IH hx hM hk hrun hC hc hs hR hS hKX hSX hl hK3
    | fastore => exact mj_plain IH hx hM hk hrun hC hc hs hR hS hKX hSX hl hK3
    | fcmp z0 => exact mj_plain IH hx hM hk hrun hC hc hs hR hS hKX hSX hl hK3
    | fconst z0 => exact mj_plain IH hx hM hk hrun hC hc hs hR hS hKX hSX hl hK3
    | fdiv => exact mj_plain IH hx hM hk hrun hC hc hs hR hS hKX hSX hl hK3
    | fload z0 => exact mj_plain IH hx hM hk hrun hC hc hs hR hS hKX hSX hl hK3
    | fload_n z0 => exact mj_plain IH hx hM hk hrun hC hc hs hR hS hKX hSX hl hK3
    | fmul => exact mj_plain IH hx hM hk hrun hC hc hs hR hS hKX hSX hl hK3
    | fneg => exact mj_plain IH hx hM hk hrun hC hc hs hR hS hKX hSX hl hK3
    | frem => exact mj_plain IH hx hM hk hrun hC hc hs hR hS hKX hSX hl hK3
    | freturn => exact mj_plain IH hx hM hk hrun hC hc hs hR hS hKX hSX hl hK3
    | fstore z0 => exact mj_plain IH hx hM hk hrun hC hc hs hR hS hKX hSX hl hK3
    | fstore_n z0 => exact mj_plain IH hx hM hk hrun hC hc hs hR hS hKX hSX hl hK3
    | fsub => exact mj_plain IH hx hM hk hrun hC hc hs hR hS hKX hSX hl hK3
    | getfield z0 => exact mj_plain IH hx hM hk hrun hC hc hs hR hS hKX hSX hl hK3
    | getstatic z0 => exact mj_plain IH hx hM hk hrun hC hc hs hR hS hKX hSX hl hK3
    | goto z0 => exact mj_plain IH hx hM hk hrun hC hc hs hR hS hKX hSX hl hK3
    | goto_w z0 => exact mj_plain IH hx hM hk hrun hC hc hs hR hS hKX hSX hl hK3
    | i2b => exact mj_plain IH hx hM hk hrun hC hc hs hR hS hKX hSX hl hK3
    | i2c => exact mj_plain IH hx hM hk hrun hC hc hs hR hS hKX hSX hl hK3
    | i2d => exact mj_plain IH hx hM hk hrun hC hc hs hR hS hKX hSX hl hK3
    | i2f => exact mj_plain IH hx hM hk hrun hC hc hs hR hS hKX hSX hl hK3
    | i2l => exact mj_plain IH hx hM hk hrun hC hc hs hR hS hKX hSX hl hK3
    | i2s => exact mj_plain IH hx hM hk hrun hC hc hs hR hS hKX hSX hl hK3
    | iadd => exact mj_plain IH hx hM hk hrun hC hc hs hR hS hKX hSX hl hK3
    | iaload => exact mj_plain IH hx hM hk hrun hC hc hs hR hS hKX hSX hl hK3
    | iand => exact mj_plain IH hx hM hk hrun hC hc hs hR hS hKX hSX hl hK3
    | iastore => exact mj_plain IH hx hM hk hrun hC hc hs hR hS hKX hSX hl hK3
    | iconst z0 => exact mj_plain IH hx hM hk hrun hC hc hs hR hS hKX hSX hl hK3
    | idiv => exact mj_plain IH hx hM hk hrun hC hc hs hR hS hKX hSX hl hK3
    | if_acmp z0 z1 => exact mj_plain IH hx hM hk hrun hC hc hs hR hS hKX hSX hl hK3
    | if_icmp z0 z1 => exact mj_plain IH hx hM hk hrun hC hc hs hR hS hKX hSX hl hK3
    | ifCond z0 z1 => exact mj_plain IH hx hM hk hrun hC hc hs hR hS hKX hSX hl hK3
    | ifnonnull z0 => exact mj_plain IH hx hM hk hrun hC hc hs hR hS hKX hSX hl hK3
    | ifnull z0 => exact mj_plain IH hx hM hk hrun hC hc hs hR hS hKX hSX hl hK3
    | iinc z0 z1 => exact mj_plain IH hx hM hk hrun hC hc hs hR hS hKX hSX hl hK3
    | iload z0 => exact mj_plain IH hx hM hk hrun hC hc hs hR hS hKX hSX hl hK3
    | iload_n z0 => exact mj_plain IH hx hM hk hrun hC hc hs hR hS hKX hSX hl hK3
    | imul => exact mj_plain IH hx hM hk hrun hC hc hs hR hS hKX hSX hl hK3
    | ineg => exact mj_plain IH hx hM hk hrun hC hc hs hR hS hKX hSX hl hK3
    | instanceof z0 => exact mj_plain IH hx hM hk hrun hC hc hs hR hS hKX hSX hl hK3
    | invokedynamic z0 => exact mj_plain IH hx hM hk hrun hC hc hs hR hS hKX hSX hl hK3
    | invokeinterface z0 z1 => exact mj_plain IH hx hM hk hrun hC hc hs hR hS hKX hSX hl hK3
    | invokespecial z0 =>
      dsimp only at hrun
      split at hrun
      · rename_i h998
        subst h998
        split at hrun
        · rename_i ob r
          split at hrun
          · rename_i hcat
            rw [hlen.resolve_left (by simp [mjLen])] at hd
            unfold mjLk2 at hlk2
            simp only [if_true] at hlk2
            refine W.objInit hexec hb hown (hts _ (mjIs_in hlk2)) (hts _ (mjIs_in ck_oi)) (hts _ (mjIs_in ck_oc)) rfl (hl.1.trans hml.symm) rfl hd (by omega) (by rw [cat_map]; show 2 * 0 + _ + 12 ≤ _; omega) ?_
            exact IH scr d k (pc + 3) ls r hp o hp' dc ds hrun y nL ret own hh np stt hM hk p e R s m args below meth c Q mc ms A hC ad cells slots H locs arr hc hs hR hS hKX hSX hl hK3
          · cases hrun
        · cases hrun
      · rename_i h998
        exact mj_call hfl IH hx (Or.inr (Or.inr ⟨z0, rfl, h998⟩)) hM hk hrun hC hc hs hR hS hKX hSX hl hK3
    | invokestatic z0 =>
      dsimp only at hrun
      split at hrun
      · rename_i h902
        subst h902
        split at hrun
        · rename_i y1 x1 r
          split at hrun
          · rename_i hcat
            rw [hlen.resolve_left (by simp [mjLen])] at hd
            unfold mjLk2 at hlk2
            simp only [if_true, Bool.and_eq_true] at hlk2
            refine va_mmax hexec hb (hml.trans hl.1.symm) hown (hts _ (mjIs_in hlk2.1.1.1)) (hts _ (mjIs_in hlk2.1.1.2)) (hts _ (mjIs_in hlk2.2)) (hts _ (mjIs_in hlk2.1.2)) (by omega) (by rw [cat_map]; omega) (by omega) (by omega) hd ?_
            exact IH scr d k (pc + 3) ls _ hp o hp' dc ds hrun y nL ret own hh np stt hM hk p e R s m args below meth c Q mc ms A hC ad cells slots H locs arr hc hs hR hS hKX hSX hl hK3
          · cases hrun
        · cases hrun
      · rename_i h902
        split at hrun
        · rename_i h903
          subst h903
          split at hrun
          · rename_i y1 x1 r
            split at hrun
            · rename_i hcat
              rw [hlen.resolve_left (by simp [mjLen])] at hd
              unfold mjLk2 at hlk2
              simp only [show ¬ (903 : Nat) = 902 by decide, if_false, if_true, Bool.and_eq_true] at hlk2
              refine va_mmin hexec hb (hml.trans hl.1.symm) hown (hts _ (mjIs_in hlk2.1.1.1)) (hts _ (mjIs_in hlk2.1.1.2)) (hts _ (mjIs_in hlk2.2)) (hts _ (mjIs_in hlk2.1.2)) (by omega) (by rw [cat_map]; omega) (by omega) (by omega) hd ?_
              exact IH scr d k (pc + 3) ls _ hp o hp' dc ds hrun y nL ret own hh np stt hM hk p e R s m args below meth c Q mc ms A hC ad cells slots H locs arr hc hs hR hS hKX hSX hl hK3
            · cases hrun
          · cases hrun
        · rename_i h903
          exact mj_call hfl IH hx (Or.inr (Or.inl ⟨z0, rfl, h902, h903⟩)) hM hk hrun hC hc hs hR hS hKX hSX hl hK3
    | invokevirtual z0 =>
      dsimp only at hrun
      split at hrun
      · rename_i h0
        exact mj_text IH hx ⟨z0, rfl⟩ h0 hM hk hrun hC hc hs hR hS hKX hSX hl hK3
      · rename_i h0
        exact mj_call hfl IH hx (Or.inl ⟨z0, rfl⟩) hM hk hrun hC hc hs hR hS hKX hSX hl hK3
    | ior => exact mj_plain IH hx hM hk hrun hC hc hs hR hS hKX hSX hl hK3
    | irem => exact mj_plain IH hx hM hk hrun hC hc hs hR hS hKX hSX hl hK3
    | ireturn => exact hret4 _ rfl (by simp [mjLen]) hrun
    | ishl => exact mj_plain IH hx hM hk hrun hC hc hs hR hS hKX hSX hl hK3
    | ishr => exact mj_plain IH hx hM hk hrun hC hc hs hR hS hKX hSX hl hK3
    | istore z0 => exact mj_plain IH hx hM hk hrun hC hc hs hR hS hKX hSX hl hK3
    | istore_n z0 => exact mj_plain IH hx hM hk hrun hC hc hs hR hS hKX hSX hl hK3
    | isub => exact mj_plain IH hx hM hk hrun hC hc hs hR hS hKX hSX hl hK3
    | iushr => exact mj_plain IH hx hM hk hrun hC hc hs hR hS hKX hSX hl hK3
    | ixor => exact mj_plain IH hx hM hk hrun hC hc hs hR hS hKX hSX hl hK3
    | jsr z0 => exact mj_plain IH hx hM hk hrun hC hc hs hR hS hKX hSX hl hK3
    | jsr_w z0 => exact mj_plain IH hx hM hk hrun hC hc hs hR hS hKX hSX hl hK3
    | l2d => exact mj_plain IH hx hM hk hrun hC hc hs hR hS hKX hSX hl hK3
    | l2f => exact mj_plain IH hx hM hk hrun hC hc hs hR hS hKX hSX hl hK3
    | l2i => exact mj_plain IH hx hM hk hrun hC hc hs hR hS hKX hSX hl hK3
    | ladd => exact mj_plain IH hx hM hk hrun hC hc hs hR hS hKX hSX hl hK3
    | laload => exact mj_plain IH hx hM hk hrun hC hc hs hR hS hKX hSX hl hK3
    | land => exact mj_plain IH hx hM hk hrun hC hc hs hR hS hKX hSX hl hK3
    | lastore => exact mj_plain IH hx hM hk hrun hC hc hs hR hS hKX hSX hl hK3
    | lcmp => exact mj_plain IH hx hM hk hrun hC hc hs hR hS hKX hSX hl hK3
    | lconst z0 => exact mj_plain IH hx hM hk hrun hC hc hs hR hS hKX hSX hl hK3
    | ldc z0 => exact mj_plain IH hx hM hk hrun hC hc hs hR hS hKX hSX hl hK3
    | ldc_w z0 => exact mj_plain IH hx hM hk hrun hC hc hs hR hS hKX hSX hl hK3
    | ldc2_w z0 => exact mj_plain IH hx hM hk hrun hC hc hs hR hS hKX hSX hl hK3
    | ldiv => exact mj_plain IH hx hM hk hrun hC hc hs hR hS hKX hSX hl hK3
    | lload z0 => exact mj_plain IH hx hM hk hrun hC hc hs hR hS hKX hSX hl hK3
    | lload_n z0 => exact mj_plain IH hx hM hk hrun hC hc hs hR hS hKX hSX hl hK3
    | lmul => exact mj_plain IH hx hM hk hrun hC hc hs hR hS hKX hSX hl hK3
    | lneg => exact mj_plain IH hx hM hk hrun hC hc hs hR hS hKX hSX hl hK3
    | lookupswitch z0 z1 => exact mj_plain IH hx hM hk hrun hC hc hs hR hS hKX hSX hl hK3
    | lor => exact mj_plain IH hx hM hk hrun hC hc hs hR hS hKX hSX hl hK3
    | lrem => exact mj_plain IH hx hM hk hrun hC hc hs hR hS hKX hSX hl hK3
    | lreturn => exact hret4 _ rfl (by simp [mjLen]) hrun
    | lshl => exact mj_plain IH hx hM hk hrun hC hc hs hR hS hKX hSX hl hK3
    | lshr => exact mj_plain IH hx hM hk hrun hC hc hs hR hS hKX hSX hl hK3
    | lstore z0 => exact mj_plain IH hx hM hk hrun hC hc hs hR hS hKX hSX hl hK3
    | lstore_n z0 => exact mj_plain IH hx hM hk hrun hC hc hs hR hS hKX hSX hl hK3
    | lsub => exact mj_plain IH hx hM hk hrun hC hc hs hR hS hKX hSX hl hK3
    | lushr => exact mj_plain IH hx hM hk hrun hC hc hs hR hS hKX hSX hl hK3
    | lxor => exact mj_plain IH hx hM hk hrun hC hc hs hR hS hKX hSX hl hK3
    | monitorenter => exact mj_plain IH hx hM hk hrun hC hc hs hR hS hKX hSX hl hK3
    | monitorexit => exact mj_plain IH hx hM hk hrun hC hc hs hR hS hKX hSX hl hK3
    | multianewarray z0 z1 => exact mj_multi IH hx rfl hM hk hrun hC hc hs hR hS hKX hSX hl hK3
    | new z0 =>
      dsimp only at hrun
      split at hrun
      · rename_i h0
        exact mj_new IH hx rfl h0 hM hk hrun hC hc hs hR hS hKX hSX hl hK3
      · rename_i h0
        split at hrun
        · rename_i h1
          simp only [Option.some.injEq, Prod.mk.injEq] at hrun
          obtain ⟨rfl, rfl, rfl, rfl⟩ := hrun
          exact hK3.2.2 _ z0 st pc ad H locs arr cells slots hx rfl h0 rfl h1.1 h1.2 hc hs hl.1 mjAg.rf hR hS
        · cases hrun
    | newarray z0 => exact mj_newarray IH hx rfl hM hk hrun hC hc hs hR hS hKX hSX hl hK3
    | nop => exact mj_plain IH hx hM hk hrun hC hc hs hR hS hKX hSX hl hK3
    | pop => exact mj_plain IH hx hM hk hrun hC hc hs hR hS hKX hSX hl hK3
    | pop2 => exact mj_plain IH hx hM hk hrun hC hc hs hR hS hKX hSX hl hK3
    | putfield z0 => exact mj_plain IH hx hM hk hrun hC hc hs hR hS hKX hSX hl hK3
    | putstatic z0 => exact mj_plain IH hx hM hk hrun hC hc hs hR hS hKX hSX hl hK3
    | ret z0 => exact mj_plain IH hx hM hk hrun hC hc hs hR hS hKX hSX hl hK3
    | return_ => exact hret4 _ rfl (by simp [mjLen]) hrun
    | saload => exact mj_plain IH hx hM hk hrun hC hc hs hR hS hKX hSX hl hK3
    | sastore => exact mj_plain IH hx hM hk hrun hC hc hs hR hS hKX hSX hl hK3
    | sipush z0 => exact mj_plain IH hx hM hk hrun hC hc hs hR hS hKX hSX hl hK3
    | swap => exact mj_plain IH hx hM hk hrun hC hc hs hR hS hKX hSX hl hK3
    | tableswitch z0 z1 z2 z3 => exact mj_plain IH hx hM hk hrun hC hc hs hR hS hKX hSX hl hK3
theorem mj_go (hfl : l.stackTraces = false) : ∀ f : Nat, mjGo l D dT (mjEx f)
  | 0 => by
    intro scr d k pc ls st hp o hp' dc ds hrun
    cases hrun
  | f + 1 => mj_step hfl (mj_go hfl f)
end MJALL

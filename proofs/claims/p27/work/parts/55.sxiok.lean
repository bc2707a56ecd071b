/-! SX: instructions on locals and stack: sound -/
noncomputable section SXIOK
variable {T : Nat} {n : Nat} {σ : List Int} {B : sxB} {ls : sxL} {st : List sxV} {cl : mjL} {cs : List Value} {l : List sxQ} {p pc b : Nat} {i : Instr} {x : sxN} {r : List sxV} {vs : List Value} {X : Int32}
theorem i32_self {X : Int32} {v : Int} (h : X.toInt = v) : Int32.ofInt v = X := by rw [← h, Int32.ofInt_toInt]
theorem sxOne_ok {v : Int} (hk : ∀ (z : Int32), mjAlu i pc b cl (.int z :: vs) = (mjAlu i pc b [] [.int z]).map (fun q => (q.1, cl, vs))) (h : sxOne i pc b B v ls r = some l) (hB : sxBR T σ B) (hl : sxLR n σ ls cl) (hs : sxSR σ r vs) (hx : X.toInt = v) : sxAG T n i pc b σ cl (.int X :: vs) l := by
  unfold sxOne at h
  split at h
  · split at h
    · rename_i p1 q1 q2 e
      cases h
      rw [i32_self hx] at e
      exact .one sxUp.rf hB hl hs (by rw [hk, e]; rfl)
    · cases h
  · cases h
theorem sxKey_ok (hk : ∀ (z : Int32), mjAlu i pc b cl (.int z :: vs) = (mjAlu i pc b [] [.int z]).map (fun q => (q.1, cl, vs))) (hB : sxBR T σ B) (hl : sxLR n σ ls cl) (hs : sxSR σ r vs) (hx : sxNR σ x X.toInt) : ∀ {keys : List Int} {l : List sxQ}, sxKey i pc b B x ls r keys = some l → X.toInt ∈ keys → sxAG T n i pc b σ cl (.int X :: vs) l
  | [], _, _, hm => by cases hm
  | v :: keys, l, h, hm => by
    unfold sxKey at h
    split at h
    · split at h
      · rename_i p1 q1 q2 e
        split at h
        · rename_i l' hl'
          cases h
          by_cases hv : X.toInt = v
          · rw [i32_self hv] at e
            obtain ⟨B', m1, m2⟩ := sxEqC_ok (y := (0, v)) hB hx ⟨0, hB.1.2, by simp⟩ hv
            exact ⟨_, List.mem_append_left _ (List.mem_map.mpr ⟨B', m1, rfl⟩), σ, cl, vs, sxUp.rf, m2, hl, hs, by rw [hk, e]; rfl⟩
          · obtain ⟨q, m, rest⟩ := sxKey_ok hk hB hl hs hx hl' ((List.mem_cons.mp hm).resolve_left hv)
            exact ⟨q, List.mem_append_right _ m, rest⟩
        · cases h
      · cases h
    · cases h
theorem sxTg_ok {o : Int} {n : Nat} (h : sxTg pc o = some n) : ((pc : Int) + o).toNat = n ∧ (n : Int) = (pc : Int) + o := by
  unfold sxTg at h
  split at h
  · rename_i m e
    cases h
    have e : (pc : Int) + o = (n : Int) := e
    omega
  · cases h
theorem tab_key (d lo hi : Int) (o : Array Int) (z : Int32) : mjAlu (.tableswitch d lo hi o) pc b cl (.int z :: vs) = (mjAlu (.tableswitch d lo hi o) pc b [] [.int z]).map (fun q => (q.1, cl, vs)) := by
  simp only [mjAlu]
  split
  · split <;> rfl
  · split
    · split <;> rfl
    · rfl
theorem lkp_key (d : Int) (o : Array (Int × Int)) (z : Int32) : mjAlu (.lookupswitch d o) pc b cl (.int z :: vs) = (mjAlu (.lookupswitch d o) pc b [] [.int z]).map (fun q => (q.1, cl, vs)) := by
  simp only [mjAlu]
  split <;> rfl
theorem sxTab_ok {d lo hi : Int} {o : Array Int} (h : sxTab d lo hi o pc b B ls st = some l) (hB : sxBR T σ B) (hl : sxLR n σ ls cl) (hs : sxSR σ st cs) : sxAG T n (.tableswitch d lo hi o) pc b σ cl cs l := by
  unfold sxTab at h
  split at h
  · rename_i v r
    obtain ⟨w, vs, rfl, h1, h2⟩ := sxSR_c hs
    obtain ⟨X, rfl, hx⟩ := h1
    exact sxOne_ok (tab_key d lo hi o) h hB hl h2 (sxN0 hB hx)
  · rename_i s c r
    obtain ⟨w, vs, rfl, h1, h2⟩ := sxSR_c hs
    obtain ⟨X, rfl, hx⟩ := h1
    split at h
    · rename_i l' hl'
      split at h
      · rename_i p1 hp1
        cases h
        obtain ⟨t1, t2⟩ := sxTg_ok hp1
        have hd : X.toInt < lo ∨ hi < X.toInt → mjAlu (.tableswitch d lo hi o) pc b cl (.int X :: vs) = some (p1, cl, vs) := by
          intro hc
          simp only [mjAlu]
          rw [if_pos hc, t1, if_pos t2]
        have c0 : ∀ k : Int, sxNR σ (0, k) k := fun k => ⟨0, hB.1.2, by simp⟩
        by_cases c1 : X.toInt < lo
        · obtain ⟨B', m1, m2⟩ := sxLtC_ok hB hx (c0 lo) c1
          exact ⟨_, List.mem_append_right _ (List.mem_append_left _ (List.mem_map.mpr ⟨B', m1, rfl⟩)), σ, cl, vs, sxUp.rf, m2, hl, h2, hd (Or.inl c1)⟩
        · by_cases c2 : hi < X.toInt
          · obtain ⟨B', m1, m2⟩ := sxLtC_ok hB (c0 hi) hx c2
            exact ⟨_, List.mem_append_right _ (List.mem_append_right _ (List.mem_map.mpr ⟨B', m1, rfl⟩)), σ, cl, vs, sxUp.rf, m2, hl, h2, hd (Or.inr c2)⟩
          · obtain ⟨q, m, rest⟩ := sxKey_ok (tab_key d lo hi o) hB hl h2 hx hl' (List.mem_map.mpr ⟨(X.toInt - lo).toNat, List.mem_range.mpr (by omega), by show lo + ((X.toInt - lo).toNat : Int) = X.toInt; omega⟩)
            exact ⟨q, List.mem_append_left _ m, rest⟩
      · cases h
    · cases h
  · cases h
theorem sxMis_ok {x : sxN} {X : Int} (hx : sxNR σ x X) : ∀ (vs : List Int) {B : sxB}, sxBR T σ B → X ∉ vs → ∃ B' ∈ sxMis B x vs, sxBR T σ B' := by
  intro vs
  induction vs with
  | nil => intro B hB _; exact ⟨B, List.mem_cons_self, hB⟩
  | cons v vs ih =>
    intro B hB hn
    have c0 : ∀ k : Int, sxNR σ (0, k) k := fun k => ⟨0, hB.1.2, by simp⟩
    have h1 : X ≠ v := fun e => hn (by rw [e]; exact List.mem_cons_self)
    have h2 : X ∉ vs := fun e => hn (List.mem_cons_of_mem _ e)
    rcases Int.lt_or_gt_of_ne h1 with h | h
    · obtain ⟨B1, m1, k1⟩ := sxLtC_ok hB hx (c0 v) h
      obtain ⟨B2, m2, k2⟩ := ih k1 h2
      exact ⟨B2, List.mem_append_left _ (List.mem_flatMap.mpr ⟨B1, m1, m2⟩), k2⟩
    · obtain ⟨B1, m1, k1⟩ := sxLtC_ok hB (c0 v) hx h
      obtain ⟨B2, m2, k2⟩ := ih k1 h2
      exact ⟨B2, List.mem_append_right _ (List.mem_flatMap.mpr ⟨B1, m1, m2⟩), k2⟩
theorem sxLkp_ok {d : Int} {o : Array (Int × Int)} (h : sxLkp d o pc b B ls st = some l) (hB : sxBR T σ B) (hl : sxLR n σ ls cl) (hs : sxSR σ st cs) : sxAG T n (.lookupswitch d o) pc b σ cl cs l := by
  unfold sxLkp at h
  split at h
  · rename_i v r
    obtain ⟨w, vs, rfl, h1, h2⟩ := sxSR_c hs
    obtain ⟨X, rfl, hx⟩ := h1
    exact sxOne_ok (lkp_key d o) h hB hl h2 (sxN0 hB hx)
  · rename_i s c r
    obtain ⟨w, vs, rfl, h1, h2⟩ := sxSR_c hs
    obtain ⟨X, rfl, hx⟩ := h1
    split at h
    · rename_i l' hl'
      split at h
      · rename_i p1 hp1
        split at h
        · rename_i hsrt
          cases h
          obtain ⟨t1, t2⟩ := sxTg_ok hp1
          by_cases hm : X.toInt ∈ o.toList.map (fun q => q.1)
          · obtain ⟨q, m, rest⟩ := sxKey_ok (lkp_key d o) hB hl h2 hx hl' hm
            exact ⟨q, List.mem_append_left _ m, rest⟩
          · have hof : Op.lookupswitch.offset o.toList d X.toInt = d := Op.lookupswitch.offset_none (by
              rw [List.find?_eq_none]
              intro q hq hb
              exact hm (List.mem_map.mpr ⟨q, hq, by simpa using hb⟩))
            obtain ⟨B2, m2, k2⟩ := sxMis_ok hx _ hB hm
            refine ⟨_, List.mem_append_right _ (List.mem_map.mpr ⟨B2, m2, rfl⟩), σ, cl, vs, sxUp.rf, k2, hl, h2, ?_⟩
            simp only [mjAlu]
            rw [hof, if_pos ⟨hsrt, by rw [t1]; exact t2⟩, t1]
        · cases h
      · cases h
    · cases h
  · cases h
theorem sxAlu_ok {F : sxFn} (h : sxAlu n i pc b = some F) (hr : F B ls st = some l) (hB : sxBR T σ B) (hl : sxLR n σ ls cl) (hs : sxSR σ st cs) : sxAG T n i pc b σ cl cs l := by
  cases i <;> simp only [sxAlu] at h
  case iconst k => cases h; exact sxPuI_ok (v := Int32.ofInt k) hr hB hl hs (fun h1 h2 => i32_of (by omega) (by omega)) rfl
  case bipush k =>
    cases h
    refine sxPuI_ok (v := (Int8.ofInt k).toInt32) hr hB hl hs (fun h1 h2 => ?_) rfl
    rw [Int8.toInt_toInt32]
    exact Int8.toInt_ofInt_of_le (by omega) (by omega)
  case sipush k =>
    cases h
    refine sxPuI_ok (v := (Int16.ofInt k).toInt32) hr hB hl hs (fun h1 h2 => ?_) rfl
    rw [Int16.toInt_toInt32]
    exact Int16.toInt_ofInt_of_le (by omega) (by omega)
  case lconst k =>
    cases h
    obtain ⟨k, hk⟩ := k
    have : k = 0 ∨ k = 1 := by omega
    rcases this with rfl | rfl
    · cases hr
      exact .one sxUp.rf hB hl (sxSR.cons ⟨0, rfl, 0, hB.1.2, by decide⟩ hs) rfl
    · cases hr
      exact .one sxUp.rf hB hl (sxSR.cons ⟨1, rfl, 0, hB.1.2, by decide⟩ hs) rfl
  case iload_n => cases h; obtain ⟨a, v, h1, h2, h3, rfl⟩ := sxLd_ok hr hl hs; obtain ⟨x, n, rfl, rfl, h4⟩ := sxK0 h3 h1; exact .one sxUp.rf hB hl (sxSR.cons h3 hs) (by simp only [mjAlu, h2])
  case iload => cases h; obtain ⟨a, v, h1, h2, h3, rfl⟩ := sxLd_ok hr hl hs; obtain ⟨x, n, rfl, rfl, h4⟩ := sxK0 h3 h1; exact .one sxUp.rf hB hl (sxSR.cons h3 hs) (by simp only [mjAlu, h2])
  case lload_n => cases h; obtain ⟨a, v, h1, h2, h3, rfl⟩ := sxLd_ok hr hl hs; obtain ⟨x, n, rfl, rfl, h4⟩ := sxK1 h3 h1; exact .one sxUp.rf hB hl (sxSR.cons h3 hs) (by simp only [mjAlu, h2])
  case lload => cases h; obtain ⟨a, v, h1, h2, h3, rfl⟩ := sxLd_ok hr hl hs; obtain ⟨x, n, rfl, rfl, h4⟩ := sxK1 h3 h1; exact .one sxUp.rf hB hl (sxSR.cons h3 hs) (by simp only [mjAlu, h2])
  case aload_n => cases h; obtain ⟨a, v, h1, h2, h3, rfl⟩ := sxLd_ok hr hl hs; obtain ⟨x, rfl, rfl⟩ := sxK2 h3 h1; exact .one sxUp.rf hB hl (sxSR.cons h3 hs) (by simp only [mjAlu, h2])
  case aload => cases h; obtain ⟨a, v, h1, h2, h3, rfl⟩ := sxLd_ok hr hl hs; obtain ⟨x, rfl, rfl⟩ := sxK2 h3 h1; exact .one sxUp.rf hB hl (sxSR.cons h3 hs) (by simp only [mjAlu, h2])
  case istore_n => cases h; obtain ⟨a, v, r, cr, h1, h2, rfl, h3, h4, rfl⟩ := sxSo_ok hr (by decide) hl hs; obtain ⟨x, n, rfl, rfl, h5⟩ := sxK0 h2 h1; exact .one sxUp.rf hB h4 h3 rfl
  case istore => cases h; obtain ⟨a, v, r, cr, h1, h2, rfl, h3, h4, rfl⟩ := sxSo_ok hr (by decide) hl hs; obtain ⟨x, n, rfl, rfl, h5⟩ := sxK0 h2 h1; exact .one sxUp.rf hB h4 h3 rfl
  case lstore_n => cases h; obtain ⟨a, v, r, cr, h1, h2, rfl, h3, h4, rfl⟩ := sxSw_ok hr hl hs; obtain ⟨x, n, rfl, rfl, h5⟩ := sxK1 h2 h1; exact .one sxUp.rf hB h4 h3 rfl
  case lstore => cases h; obtain ⟨a, v, r, cr, h1, h2, rfl, h3, h4, rfl⟩ := sxSw_ok hr hl hs; obtain ⟨x, n, rfl, rfl, h5⟩ := sxK1 h2 h1; exact .one sxUp.rf hB h4 h3 rfl
  case astore_n => cases h; obtain ⟨a, v, r, cr, h1, h2, rfl, h3, h4, rfl⟩ := sxSr_ok hr hl hs; obtain ⟨x, rfl, rfl⟩ := sxK2 h2 h1; exact .one sxUp.rf hB h4 h3 rfl
  case astore => cases h; obtain ⟨a, v, r, cr, h1, h2, rfl, h3, h4, rfl⟩ := sxSr_ok hr hl hs; obtain ⟨x, rfl, rfl⟩ := sxK2 h2 h1; exact .one sxUp.rf hB h4 h3 rfl
  case iinc => cases h; exact sxInc_ok hr hB hl hs rfl
  case iadd => cases h; obtain ⟨y, x, vy, vx, r, cr, w, rfl, ⟨Y, rfl, hy⟩, ⟨X, rfl, hx⟩, h3, hw, rfl⟩ := sxBin_ok hr hs; exact .f32 (sxRemI_ok hB hw hx hy (by simp only [sxSem, Int32.ofInt_toInt, Int64.ofInt_toInt]) fun w hw => sxAdd_ok hB hw hx hy (sp_add32 X Y)) hl h3 rfl
  case isub => cases h; obtain ⟨y, x, vy, vx, r, cr, w, rfl, ⟨Y, rfl, hy⟩, ⟨X, rfl, hx⟩, h3, hw, rfl⟩ := sxBin_ok hr hs; exact .f32 (sxRem2_ok hB hw hx hy (by simp only [sxSem, Int32.ofInt_toInt, Int64.ofInt_toInt]) fun w hw => sxSub_ok hB hw hx hy (sp_sub32 X Y)) hl h3 rfl
  case imul => cases h; obtain ⟨y, x, vy, vx, r, cr, w, rfl, ⟨Y, rfl, hy⟩, ⟨X, rfl, hx⟩, h3, hw, rfl⟩ := sxBin_ok hr hs; exact .f32 (sxRem1_ok hB hw hx hy (by simp only [sxSem, Int32.ofInt_toInt, Int64.ofInt_toInt]) fun w hw => sxMul_ok (by decide) hB hw hx hy (sp_mul32 X Y)) hl h3 rfl
  case iand => cases h; obtain ⟨y, x, vy, vx, r, cr, w, rfl, ⟨Y, rfl, hy⟩, ⟨X, rfl, hx⟩, h3, hw, rfl⟩ := sxBin_ok hr hs; exact .f32 (sxRem1_ok hB hw hx hy (by simp only [sxSem, Int32.ofInt_toInt, Int64.ofInt_toInt]) fun w hw => sxAnd_ok hB hw hx hy (sp_and32 X Y)) hl h3 rfl
  case ior => cases h; obtain ⟨y, x, vy, vx, r, cr, w, rfl, ⟨Y, rfl, hy⟩, ⟨X, rfl, hx⟩, h3, hw, rfl⟩ := sxBin_ok hr hs; exact .f32 (sxRem1_ok hB hw hx hy (by simp only [sxSem, Int32.ofInt_toInt, Int64.ofInt_toInt]) fun w hw => sxOr_ok hB hw hx hy (sp_or32 X Y)) hl h3 rfl
  case ixor => cases h; obtain ⟨y, x, vy, vx, r, cr, w, rfl, ⟨Y, rfl, hy⟩, ⟨X, rfl, hx⟩, h3, hw, rfl⟩ := sxBin_ok hr hs; exact .f32 (sxRem1_ok hB hw hx hy (by simp only [sxSem, Int32.ofInt_toInt, Int64.ofInt_toInt]) fun w hw => sxOr_ok hB hw hx hy (sp_xor32 X Y)) hl h3 rfl
  case irem =>
    cases h
    obtain ⟨y, x, vy, vx, r, cr, w, rfl, ⟨Y, rfl, hy⟩, ⟨X, rfl, hx⟩, h3, hw, rfl⟩ := sxBin_ok hr hs
    obtain ⟨h0, g⟩ := sxRem_ok hB hw hx hy (sp_rem32 X Y)
    refine .f32 g hl h3 ?_
    simp only [mjAlu]
    rw [if_neg (fun q => by rw [q] at h0; exact absurd h0 (by decide))]
  case ishl => cases h; obtain ⟨y, x, vy, vx, r, cr, w, rfl, ⟨Y, rfl, hy⟩, ⟨X, rfl, hx⟩, h3, hw, rfl⟩ := sxBin_ok hr hs; exact .f32 (sxRem1_ok hB hw hx hy (by simp only [sxSem, Int32.ofInt_toInt, Int64.ofInt_toInt]) fun w hw => sxShl_ok hB hw hx hy (sp_shl32 X Y)) hl h3 rfl
  case ishr => cases h; obtain ⟨y, x, vy, vx, r, cr, w, rfl, ⟨Y, rfl, hy⟩, ⟨X, rfl, hx⟩, h3, hw, rfl⟩ := sxBin_ok hr hs; exact .f32 (sxRem1_ok hB hw hx hy (by simp only [sxSem, Int32.ofInt_toInt, Int64.ofInt_toInt]) fun w hw => sxShr_ok hB hw hx hy (sp_shr32 X Y)) hl h3 rfl
  case iushr => cases h; obtain ⟨y, x, vy, vx, r, cr, w, rfl, ⟨Y, rfl, hy⟩, ⟨X, rfl, hx⟩, h3, hw, rfl⟩ := sxBin_ok hr hs; exact .f32 (sxRem1_ok hB hw hx hy (by simp only [sxSem, Int32.ofInt_toInt, Int64.ofInt_toInt]) fun w hw => sxShr_ok hB hw hx hy (sp_ushr32 X Y)) hl h3 rfl
  case ladd => cases h; obtain ⟨y, x, vy, vx, r, cr, w, rfl, ⟨Y, rfl, hy⟩, ⟨X, rfl, hx⟩, h3, hw, rfl⟩ := sxBin_ok hr hs; exact .f64 (sxRem2_ok hB hw hx hy (by simp only [sxSem, Int32.ofInt_toInt, Int64.ofInt_toInt]) fun w hw => sxAdd_ok hB hw hx hy (sp_add64 X Y)) hl h3 rfl
  case lsub => cases h; obtain ⟨y, x, vy, vx, r, cr, w, rfl, ⟨Y, rfl, hy⟩, ⟨X, rfl, hx⟩, h3, hw, rfl⟩ := sxBin_ok hr hs; exact .f64 (sxRem2_ok hB hw hx hy (by simp only [sxSem, Int32.ofInt_toInt, Int64.ofInt_toInt]) fun w hw => sxSub_ok hB hw hx hy (sp_sub64 X Y)) hl h3 rfl
  case lmul => cases h; obtain ⟨y, x, vy, vx, r, cr, w, rfl, ⟨Y, rfl, hy⟩, ⟨X, rfl, hx⟩, h3, hw, rfl⟩ := sxBin_ok hr hs; exact .f64 (sxRem1_ok hB hw hx hy (by simp only [sxSem, Int32.ofInt_toInt, Int64.ofInt_toInt]) fun w hw => sxMul_ok (by decide) hB hw hx hy (sp_mul64 X Y)) hl h3 rfl
  case land => cases h; obtain ⟨y, x, vy, vx, r, cr, w, rfl, ⟨Y, rfl, hy⟩, ⟨X, rfl, hx⟩, h3, hw, rfl⟩ := sxBin_ok hr hs; exact .f64 (sxRem1_ok hB hw hx hy (by simp only [sxSem, Int32.ofInt_toInt, Int64.ofInt_toInt]) fun w hw => sxAnd_ok hB hw hx hy (sp_and64 X Y)) hl h3 rfl
  case lor => cases h; obtain ⟨y, x, vy, vx, r, cr, w, rfl, ⟨Y, rfl, hy⟩, ⟨X, rfl, hx⟩, h3, hw, rfl⟩ := sxBin_ok hr hs; exact .f64 (sxRem1_ok hB hw hx hy (by simp only [sxSem, Int32.ofInt_toInt, Int64.ofInt_toInt]) fun w hw => sxOr_ok hB hw hx hy (sp_or64 X Y)) hl h3 rfl
  case lxor => cases h; obtain ⟨y, x, vy, vx, r, cr, w, rfl, ⟨Y, rfl, hy⟩, ⟨X, rfl, hx⟩, h3, hw, rfl⟩ := sxBin_ok hr hs; exact .f64 (sxRem1_ok hB hw hx hy (by simp only [sxSem, Int32.ofInt_toInt, Int64.ofInt_toInt]) fun w hw => sxOr_ok hB hw hx hy (sp_xor64 X Y)) hl h3 rfl
  case lshl => cases h; obtain ⟨y, x, vy, vx, r, cr, w, rfl, ⟨Y, rfl, hy⟩, ⟨X, rfl, hx⟩, h3, hw, rfl⟩ := sxBin_ok hr hs; exact .f64 (sxRem1_ok hB hw hx hy (by simp only [sxSem, Int32.ofInt_toInt, Int64.ofInt_toInt]) fun w hw => sxShl_ok hB hw hx hy (sp_shl64 X Y)) hl h3 rfl
  case lshr => cases h; obtain ⟨y, x, vy, vx, r, cr, w, rfl, ⟨Y, rfl, hy⟩, ⟨X, rfl, hx⟩, h3, hw, rfl⟩ := sxBin_ok hr hs; exact .f64 (sxRem1_ok hB hw hx hy (by simp only [sxSem, Int32.ofInt_toInt, Int64.ofInt_toInt]) fun w hw => sxShr_ok hB hw hx hy (sp_shr64 X Y)) hl h3 rfl
  case lushr => cases h; obtain ⟨y, x, vy, vx, r, cr, w, rfl, ⟨Y, rfl, hy⟩, ⟨X, rfl, hx⟩, h3, hw, rfl⟩ := sxBin_ok hr hs; exact .f64 (sxRem1_ok hB hw hx hy (by simp only [sxSem, Int32.ofInt_toInt, Int64.ofInt_toInt]) fun w hw => sxShr_ok hB hw hx hy (sp_ushr64 X Y)) hl h3 rfl
  case lcmp => cases h; exact sxLc_ok hr hB hl hs
  case i2l => cases h; obtain ⟨x, vx, r, cr, w, rfl, ⟨X, rfl, hx⟩, h3, hw, rfl⟩ := sxUn_ok hr hs; cases hw; exact .f64 (w := (B, x)) (v := X.toInt64) (sxGive.keep hB (by rw [Int32.toInt_toInt64]; exact hx)) hl h3 rfl
  case l2i =>
    cases h
    obtain ⟨x, vx, r, cr, w, rfl, ⟨X, rfl, hx⟩, h3, hw, rfl⟩ := sxUn_ok hr hs
    have hr := sxT32 X.toInt32
    exact .f32 (v := X.toInt32) (sxRem1_ok hB hw hx (Y := 0) ⟨0, hB.1.2, rfl⟩ (by show ((Int64.ofInt X.toInt).toInt32).toInt = _; rw [Int64.ofInt_toInt]) (fun w hw => sxNar_ok hB hw hx (fun h1 h2 => by rw [Int64.toInt_toInt32]; exact bm32 h1 (by omega)) hr.1 (by omega))) hl h3 rfl
  case i2b =>
    cases h
    obtain ⟨x, vx, r, cr, w, rfl, ⟨X, rfl, hx⟩, h3, hw, rfl⟩ := sxUn_ok hr hs
    have e : X.toInt8.toInt32.toInt = X.toInt.bmod (2 ^ 8) := by rw [Int8.toInt_toInt32, Int32.toInt_toInt8]
    have e1 : -(2 ^ 8 / 2 : Int) ≤ X.toInt.bmod (2 ^ 8) := Int.le_bmod (by decide)
    have e2 : X.toInt.bmod (2 ^ 8) < (2 ^ 8 + 1) / 2 := Int.bmod_lt (by decide)
    exact .f32 (v := X.toInt8.toInt32) (sxRem1_ok hB hw hx (Y := 0) ⟨0, hB.1.2, rfl⟩ (by show ((Int32.ofInt X.toInt).toInt8.toInt32).toInt = _; rw [Int32.ofInt_toInt]) (fun w hw => sxNar_ok hB hw hx (fun h1 h2 => by rw [e]; exact Int.bmod_eq_of_le (by omega) (by omega)) (by rw [e]; omega) (by rw [e]; omega))) hl h3 rfl
  case dup =>
    cases h
    dsimp only at hr
    split at hr
    · split at hr
      · rename_i hc
        cases hr
        obtain ⟨v, vs, rfl, h1, h2⟩ := sxSR_c hs
        exact .one sxUp.rf hB hl (sxSR.cons h1 (sxSR.cons h1 h2)) (by simp only [mjAlu]; rw [if_pos ((sxVR_cat h1).trans (Nat.eq_of_beq_eq_true hc))])
      · cases hr
    · cases hr
  case pop =>
    cases h
    dsimp only at hr
    split at hr
    · split at hr
      · rename_i hc
        cases hr
        obtain ⟨v, vs, rfl, h1, h2⟩ := sxSR_c hs
        exact .one sxUp.rf hB hl h2 (by simp only [mjAlu]; rw [if_pos ((sxVR_cat h1).trans (Nat.eq_of_beq_eq_true hc))])
      · cases hr
    · cases hr
  case dup2 =>
    cases h
    dsimp only at hr
    split at hr
    · split at hr
      · rename_i hc
        split at hr
        · rename_i hc2
          cases hr
          obtain ⟨v, vs, rfl, h1, h2⟩ := sxSR_c hs
          obtain ⟨w, ws, rfl, h3, h4⟩ := sxSR_c h2
          exact .one sxUp.rf hB hl (sxSR.cons h1 (sxSR.cons h3 (sxSR.cons h1 (sxSR.cons h3 h4)))) (by simp only [mjAlu]; rw [if_pos ⟨(sxVR_cat h1).trans (Nat.eq_of_beq_eq_true hc), (sxVR_cat h3).trans (Nat.eq_of_beq_eq_true hc2)⟩])
        · cases hr
      · cases hr
    · cases hr
  case ifCond c _ =>
    cases h
    unfold sxIf1 at hr
    split at hr
    · cases hr
      obtain ⟨v, vs, rfl, ⟨X, rfl, hx⟩, h2⟩ := sxSR_c hs
      obtain ⟨q, m, e1, e2⟩ := sxBr_ok (c := c) (y := (0, 0)) (X := X) (Y := 0) hB hx ⟨0, hB.1.2, by decide⟩
      refine ⟨_, List.mem_map.mpr ⟨q, m, rfl⟩, σ, cl, vs, sxUp.rf, e2, hl, h2, ?_⟩
      simp only [mjAlu, e1]
      cases q.1 <;> rfl
    · cases hr
  case if_icmp c _ =>
    cases h
    unfold sxIf2 at hr
    split at hr
    · cases hr
      obtain ⟨v, vs, rfl, ⟨Y, rfl, hy⟩, h2⟩ := sxSR_c hs
      obtain ⟨w, ws, rfl, ⟨X, rfl, hx⟩, h4⟩ := sxSR_c h2
      obtain ⟨q, m, e1, e2⟩ := sxBr_ok (c := c) (X := X) (Y := Y) hB hx hy
      refine ⟨_, List.mem_map.mpr ⟨q, m, rfl⟩, σ, cl, ws, sxUp.rf, e2, hl, h4, ?_⟩
      simp only [mjAlu, e1]
      cases q.1 <;> rfl
    · cases hr
  case goto => cases h; cases hr; exact .one sxUp.rf hB hl hs rfl
  case tableswitch => cases h; exact sxTab_ok hr hB hl hs
  case lookupswitch => cases h; exact sxLkp_ok hr hB hl hs
  all_goals (cases h)
end SXIOK

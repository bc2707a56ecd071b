/-! MJ: decoding, byte by byte along the code -/
section MJDEC
theorem rd_run {code : ByteArray} {p : Nat} {b : UInt8} {r : List UInt8} (h : code.data.toList.drop p = b :: r) : (Reader.u1 (ε := DecodeError)).runAt code p = .ok (b.toNat, p + 1) := by
  have hlt : p < code.data.toList.length := by
    rcases Nat.lt_or_ge p code.data.toList.length with q | q
    · exact q
    · rw [List.drop_eq_nil_of_le q] at h
      cases h
  have hg : code.data.toList[p] = b := by
    have := List.drop_eq_getElem_cons hlt
    rw [h] at this
    exact (List.cons.inj this).1.symm
  have hs : p < code.size := hlt
  have hb : code[p] = b := hg
  unfold Reader.u1
  show (if h : p < code.size then _ else _ : Reader DecodeError Nat).runAt code p = _
  rw [dif_pos hs]
  show Except.ok (code[p].toNat, p + 1) = _
  rw [hb]
theorem rd_next {l : List UInt8} {p : Nat} {b : UInt8} {r : List UInt8} (h : l.drop p = b :: r) : l.drop (p + 1) = r := by
  rw [← List.drop_drop, h]
  rfl
theorem rd_u2 {code : ByteArray} {p : Nat} {b b2 : UInt8} {r : List UInt8} (h : code.data.toList.drop p = b :: b2 :: r) : (Reader.u2 (ε := DecodeError)).runAt code p = .ok (b.toNat * 256 + b2.toNat, p + 2) := by
  have h1 := rd_run h
  have h2 := rd_run (rd_next h)
  unfold Reader.u2
  show (Reader.u1.runAt code p >>= fun q => (Reader.u1.runAt code q.2 >>= fun q2 => Except.ok (q.1 * 256 + q2.1, q2.2))) = _
  rw [h1]
  show (Reader.u1.runAt code (p + 1) >>= fun q2 => Except.ok (b.toNat * 256 + q2.1, q2.2)) = _
  rw [h2]
  rfl
theorem rd_s1 {code : ByteArray} {p : Nat} {b : UInt8} {r : List UInt8} (h : code.data.toList.drop p = b :: r) : (Reader.s1 (ε := DecodeError)).runAt code p = .ok (Reader.signed 8 b.toNat, p + 1) := by
  unfold Reader.s1
  show ((Reader.u1 (ε := DecodeError)).runAt code p >>= fun q => Except.ok (Reader.signed 8 q.1, q.2)) = _
  rw [rd_run h]
  rfl
theorem rd_s2 {code : ByteArray} {p : Nat} {b b2 : UInt8} {r : List UInt8} (h : code.data.toList.drop p = b :: b2 :: r) : (Reader.s2 (ε := DecodeError)).runAt code p = .ok (Reader.signed 16 (b.toNat * 256 + b2.toNat), p + 2) := by
  unfold Reader.s2
  show ((Reader.u2 (ε := DecodeError)).runAt code p >>= fun q => Except.ok (Reader.signed 16 q.1, q.2)) = _
  rw [rd_u2 h]
  rfl
theorem de_go {code : ByteArray} {pc : Nat} {b : UInt8} {r : List UInt8} {f : Nat → Decoder Instr} (h : code.data.toList.drop pc = b :: r) (hf : Decoder.instr pc = Reader.u1 >>= f) : decode code pc = ((f b.toNat).runAt code (pc + 1) >>= fun q => Except.ok (q.1, q.2 - pc)) := by
  unfold decode
  rw [hf]
  show ((Reader.u1.runAt code pc >>= fun q => (f q.1).runAt code q.2) >>= fun q => Except.ok (q.1, q.2 - pc)) = _
  rw [rd_run h]
  rfl
theorem de_0 {code : ByteArray} {pc : Nat} {b : UInt8} {r : List UInt8} {f : Nat → Decoder Instr} {i : Instr} {n : Nat} (h : code.data.toList.drop pc = b :: r) (hb : b.toNat = n) (hf : Decoder.instr pc = Reader.u1 >>= f) (hi : f n = Pure.pure i) : decode code pc = .ok (i, 1) := by
  rw [de_go h hf, hb, hi]
  show Except.ok (i, pc + 1 - pc) = _
  rw [Nat.add_sub_cancel_left]
theorem de_1 {code : ByteArray} {pc : Nat} {b x : UInt8} {r : List UInt8} {f : Nat → Decoder Instr} {g : Nat → Instr} {n : Nat} (h : code.data.toList.drop pc = b :: x :: r) (hb : b.toNat = n) (hf : Decoder.instr pc = Reader.u1 >>= f) (hi : f n = (do Pure.pure (g (← Reader.u1)))) : decode code pc = .ok (g x.toNat, 2) := by
  rw [de_go h hf, hb, hi]
  show ((Reader.u1.runAt code (pc + 1) >>= fun q => Except.ok (g q.1, q.2)) >>= fun q => Except.ok (q.1, q.2 - pc)) = _
  rw [rd_run (rd_next h)]
  show Except.ok (g x.toNat, pc + 1 + 1 - pc) = _
  rw [show pc + 1 + 1 - pc = 2 by omega]
theorem de_2 {code : ByteArray} {pc : Nat} {b x y : UInt8} {r : List UInt8} {f : Nat → Decoder Instr} {g : Nat → Instr} {n : Nat} (h : code.data.toList.drop pc = b :: x :: y :: r) (hb : b.toNat = n) (hf : Decoder.instr pc = Reader.u1 >>= f) (hi : f n = (do Pure.pure (g (← Reader.u2)))) : decode code pc = .ok (g (x.toNat * 256 + y.toNat), 3) := by
  rw [de_go h hf, hb, hi]
  show ((Reader.u2.runAt code (pc + 1) >>= fun q => Except.ok (g q.1, q.2)) >>= fun q => Except.ok (q.1, q.2 - pc)) = _
  rw [rd_u2 (rd_next h)]
  show Except.ok (g _, pc + 1 + 2 - pc) = _
  rw [show pc + 1 + 2 - pc = 3 by omega]
theorem de_i {code : ByteArray} {pc : Nat} {b x y : UInt8} {r : List UInt8} {f : Nat → Decoder Instr} {n : Nat} (h : code.data.toList.drop pc = b :: x :: y :: r) (hb : b.toNat = n) (hf : Decoder.instr pc = Reader.u1 >>= f) (hi : f n = (do Pure.pure (.iinc (← Reader.u1) (← Reader.s1)))) : decode code pc = .ok (.iinc x.toNat (Reader.signed 8 y.toNat), 3) := by
  rw [de_go h hf, hb, hi]
  show (((Reader.u1 (ε := DecodeError)).runAt code (pc + 1) >>= fun q => ((Reader.s1 (ε := DecodeError)).runAt code q.2 >>= fun q2 => Except.ok (Instr.iinc q.1 q2.1, q2.2))) >>= fun q => Except.ok (q.1, q.2 - pc)) = _
  rw [rd_run (rd_next h)]
  show (((Reader.s1 (ε := DecodeError)).runAt code (pc + 1 + 1) >>= fun q2 => Except.ok (Instr.iinc x.toNat q2.1, q2.2)) >>= fun q => Except.ok (q.1, q.2 - pc)) = _
  rw [rd_s1 (rd_next (rd_next h))]
  show Except.ok (_, pc + 1 + 1 + 1 - pc) = _
  rw [show pc + 1 + 1 + 1 - pc = 3 by omega]
theorem de_s1 {code : ByteArray} {pc : Nat} {b x : UInt8} {r : List UInt8} {f : Nat → Decoder Instr} {g : Int → Instr} {n : Nat} (h : code.data.toList.drop pc = b :: x :: r) (hb : b.toNat = n) (hf : Decoder.instr pc = Reader.u1 >>= f) (hi : f n = (do Pure.pure (g (← Reader.s1)))) : decode code pc = .ok (g (Reader.signed 8 x.toNat), 2) := by
  rw [de_go h hf, hb, hi]
  show (((Reader.s1 (ε := DecodeError)).runAt code (pc + 1) >>= fun q => Except.ok (g q.1, q.2)) >>= fun q => Except.ok (q.1, q.2 - pc)) = _
  rw [rd_s1 (rd_next h)]
  show Except.ok (g _, pc + 1 + 1 - pc) = _
  rw [show pc + 1 + 1 - pc = 2 by omega]
theorem de_s2 {code : ByteArray} {pc : Nat} {b x y : UInt8} {r : List UInt8} {f : Nat → Decoder Instr} {g : Int → Instr} {n : Nat} (h : code.data.toList.drop pc = b :: x :: y :: r) (hb : b.toNat = n) (hf : Decoder.instr pc = Reader.u1 >>= f) (hi : f n = (do Pure.pure (g (← Reader.s2)))) : decode code pc = .ok (g (Reader.signed 16 (x.toNat * 256 + y.toNat)), 3) := by
  rw [de_go h hf, hb, hi]
  show (((Reader.s2 (ε := DecodeError)).runAt code (pc + 1) >>= fun q => Except.ok (g q.1, q.2)) >>= fun q => Except.ok (q.1, q.2 - pc)) = _
  rw [rd_s2 (rd_next h)]
  show Except.ok (g _, pc + 1 + 2 - pc) = _
  rw [show pc + 1 + 2 - pc = 3 by omega]
theorem de_m {code : ByteArray} {pc : Nat} {b x y z : UInt8} {r : List UInt8} {f : Nat → Decoder Instr} {n : Nat} (h : code.data.toList.drop pc = b :: x :: y :: z :: r) (hb : b.toNat = n) (hz : z.toNat ≠ 0) (hf : Decoder.instr pc = Reader.u1 >>= f) (hi : f n = Decoder.multianewarray pc) : decode code pc = .ok (.multianewarray (x.toNat * 256 + y.toNat) z.toNat, 4) := by
  rw [de_go h hf, hb, hi]
  have hz' : (z.toNat != 0) = true := by simp [hz]
  have e1 : (Decoder.multianewarray pc).runAt code (pc + 1) = Except.ok (Instr.multianewarray (x.toNat * 256 + y.toNat) z.toNat, pc + 1 + 2 + 1) := by
    unfold Decoder.multianewarray
    show ((Reader.u2 (ε := DecodeError)).runAt code (pc + 1) >>= _) = _
    rw [rd_u2 (rd_next h)]
    show ((Reader.u1 (ε := DecodeError)).runAt code (pc + 1 + 2) >>= _) = _
    rw [show pc + 1 + 2 = pc + 1 + 1 + 1 by omega, rd_run (rd_next (rd_next (rd_next h)))]
    show ((if (z.toNat != 0) = true then (Pure.pure (Instr.multianewarray (x.toNat * 256 + y.toNat) z.toNat) : Decoder Instr) else _) : Decoder Instr) code (pc + 1 + 1 + 1 + 1) = _
    rw [if_pos hz']
    rfl
  rw [e1]
  show Except.ok (_, pc + 1 + 2 + 1 - pc) = _
  rw [show pc + 1 + 2 + 1 - pc = 4 by omega]
theorem de_n {code : ByteArray} {pc : Nat} {b x : UInt8} {r : List UInt8} {f : Nat → Decoder Instr} {n : Nat} {t : ArrayType} (h : code.data.toList.drop pc = b :: x :: r) (hb : b.toNat = n) (hf : Decoder.instr pc = Reader.u1 >>= f) (hi : f n = Decoder.newarray pc)
    (ht : (t = .boolean ∧ x.toNat = 4) ∨ (t = .byte ∧ x.toNat = 8) ∨ (t = .int ∧ x.toNat = 10) ∨ (t = .long ∧ x.toNat = 11)) : decode code pc = .ok (.newarray t, 2) := by
  rw [de_go h hf, hb, hi]
  have key : ∀ k : Nat, x.toNat = k → (Decoder.newarray pc).runAt code (pc + 1) = ((match k with
      | 4 => Pure.pure (.newarray .boolean) | 5 => Pure.pure (.newarray .char) | 6 => Pure.pure (.newarray .float) | 7 => Pure.pure (.newarray .double) | 8 => Pure.pure (.newarray .byte) | 9 => Pure.pure (.newarray .short) | 10 => Pure.pure (.newarray .int) | 11 => Pure.pure (.newarray .long)
      | _ => throw (DecodeError.badOperand pc "newarray: atype") : Decoder Instr)).runAt code (pc + 1 + 1) := by
    intro k hk
    subst hk
    unfold Decoder.newarray
    show (Reader.u1.runAt code (pc + 1) >>= _) = _
    rw [rd_run (rd_next h)]
    rfl
  rcases ht with ⟨rfl, hx⟩ | ⟨rfl, hx⟩ | ⟨rfl, hx⟩ | ⟨rfl, hx⟩ <;>
  · rw [key _ hx]
    show Except.ok (_, pc + 1 + 1 - pc) = _
    rw [show pc + 1 + 1 - pc = 2 by omega]
theorem sg_1 {k : Int} {n : Nat} (h : -128 ≤ k ∧ k < 128) (hn : n = (k % 256).toNat) : Reader.signed 8 n = k := by
  subst hn
  unfold Reader.signed
  split <;> rename_i h1 <;> simp only [Nat.reduceSub, Nat.reducePow] at h1 ⊢ <;> omega
theorem sg_2 {k : Int} {n m : Nat} (h : -32768 ≤ k ∧ k < 32768) (hn : n = (k % 65536).toNat / 256) (hm : m = (k % 65536).toNat % 256) : Reader.signed 16 (n * 256 + m) = k := by
  subst hn; subst hm
  unfold Reader.signed
  split <;> rename_i h1 <;> simp only [Nat.reduceSub, Nat.reducePow] at h1 ⊢ <;> omega

/-- the bytes of an instruction -/
def mjEnc (i : Instr) : Option (List Nat) := match i with
  | .aaload => some [50]
  | .aastore => some [83]
  | .aload k => if k < 256 then some [25, k] else none
  | .aload_n k => some [42 + (k : Nat)]
  | .anewarray k => if k < 65536 then some [189, k / 256, k % 256] else none
  | .areturn => some [176]
  | .arraylength => some [190]
  | .astore k => if k < 256 then some [58, k] else none
  | .astore_n k => some [75 + (k : Nat)]
  | .athrow => some [191]
  | .baload => some [51]
  | .bastore => some [84]
  | .bipush k => if -128 ≤ k ∧ k < 128 then some [16, (k % 256).toNat] else none
  | .dup => some [89]
  | .dup2 => some [92]
  | .getfield k => if k < 65536 then some [180, k / 256, k % 256] else none
  | .goto k => if -32768 ≤ k ∧ k < 32768 then some [167, (k % 65536).toNat / 256, (k % 65536).toNat % 256] else none
  | .i2b => some [145]
  | .i2l => some [133]
  | .iadd => some [96]
  | .iaload => some [46]
  | .iand => some [126]
  | .iastore => some [79]
  | .iconst k => if k = -1 then some [2] else if k = 0 then some [3] else if k = 1 then some [4] else if k = 2 then some [5] else if k = 3 then some [6] else if k = 4 then some [7] else if k = 5 then some [8] else none
  | .ifCond q k => if -32768 ≤ k ∧ k < 32768 then some [(match q with | .eq => 153 | .ne => 154 | .lt => 155 | .ge => 156 | .gt => 157 | .le => 158), (k % 65536).toNat / 256, (k % 65536).toNat % 256] else none
  | .if_icmp q k => if -32768 ≤ k ∧ k < 32768 then some [(match q with | .eq => 159 | .ne => 160 | .lt => 161 | .ge => 162 | .gt => 163 | .le => 164), (k % 65536).toNat / 256, (k % 65536).toNat % 256] else none
  | .iinc i k => if i < 256 ∧ -128 ≤ k ∧ k < 128 then some [132, i, (k % 256).toNat] else none
  | .iload k => if k < 256 then some [21, k] else none
  | .iload_n k => some [26 + (k : Nat)]
  | .imul => some [104]
  | .invokespecial k => if k < 65536 then some [183, k / 256, k % 256] else none
  | .invokestatic k => if k < 65536 then some [184, k / 256, k % 256] else none
  | .invokevirtual k => if k < 65536 then some [182, k / 256, k % 256] else none
  | .ior => some [128]
  | .irem => some [112]
  | .ireturn => some [172]
  | .ishl => some [120]
  | .ishr => some [122]
  | .istore k => if k < 256 then some [54, k] else none
  | .istore_n k => some [59 + (k : Nat)]
  | .isub => some [100]
  | .iushr => some [124]
  | .ixor => some [130]
  | .l2i => some [136]
  | .ladd => some [97]
  | .laload => some [47]
  | .land => some [127]
  | .lastore => some [80]
  | .lcmp => some [148]
  | .lconst k => some [9 + (k : Nat)]
  | .ldc k => if k < 256 then some [18, k] else none
  | .ldc2_w k => if k < 65536 then some [20, k / 256, k % 256] else none
  | .ldc_w k => if k < 65536 then some [19, k / 256, k % 256] else none
  | .lload k => if k < 256 then some [22, k] else none
  | .lload_n k => some [30 + (k : Nat)]
  | .lmul => some [105]
  | .lor => some [129]
  | .lreturn => some [173]
  | .lshl => some [121]
  | .lshr => some [123]
  | .lstore k => if k < 256 then some [55, k] else none
  | .lstore_n k => some [63 + (k : Nat)]
  | .lsub => some [101]
  | .lushr => some [125]
  | .lxor => some [131]
  | .multianewarray i n => if i < 65536 ∧ n ≠ 0 ∧ n < 256 then some [197, i / 256, i % 256, n] else none
  | .new k => if k < 65536 then some [187, k / 256, k % 256] else none
  | .newarray t => match t with | .boolean => some [188, 4] | .byte => some [188, 8] | .int => some [188, 10] | .long => some [188, 11] | _ => none
  | .pop => some [87]
  | .putfield k => if k < 65536 then some [181, k / 256, k % 256] else none
  | .return_ => some [177]
  | .sipush k => if -32768 ≤ k ∧ k < 32768 then some [17, (k % 65536).toNat / 256, (k % 65536).toNat % 256] else none
  | _ => none
def mjPfx : List Nat → List UInt8 → Bool
  | [], _ => true
  | a :: l, b :: r => b.toNat == a && mjPfx l r
  | _ :: _, [] => false
theorem mjPfx_1 {a : Nat} {l : List UInt8} (h : mjPfx [a] l = true) : ∃ b r, l = b :: r ∧ b.toNat = a := by
  cases l with
  | nil => cases h
  | cons b r =>
    simp only [mjPfx, Bool.and_eq_true, beq_iff_eq] at h
    exact ⟨b, r, rfl, h.1⟩
theorem mjPfx_2 {a a2 : Nat} {l : List UInt8} (h : mjPfx [a, a2] l = true) : ∃ b b2 r, l = b :: b2 :: r ∧ b.toNat = a ∧ b2.toNat = a2 := by
  match l, h with
  | b :: b2 :: r, h =>
    simp only [mjPfx, Bool.and_eq_true, beq_iff_eq] at h
    exact ⟨b, b2, r, rfl, h.1, h.2.1⟩
  | [_], h => simp [mjPfx] at h
  | [], h => simp [mjPfx] at h
theorem mjPfx_3 {a a2 a3 : Nat} {l : List UInt8} (h : mjPfx [a, a2, a3] l = true) : ∃ b b2 b3 r, l = b :: b2 :: b3 :: r ∧ b.toNat = a ∧ b2.toNat = a2 ∧ b3.toNat = a3 := by
  match l, h with
  | b :: b2 :: b3 :: r, h =>
    simp only [mjPfx, Bool.and_eq_true, beq_iff_eq] at h
    exact ⟨b, b2, b3, r, rfl, h.1, h.2.1, h.2.2.1⟩
  | [_, _], h => simp [mjPfx] at h
  | [_], h => simp [mjPfx] at h
  | [], h => simp [mjPfx] at h
theorem mjPfx_4 {a a2 a3 a4 : Nat} {l : List UInt8} (h : mjPfx [a, a2, a3, a4] l = true) : ∃ b b2 b3 b4 r, l = b :: b2 :: b3 :: b4 :: r ∧ b.toNat = a ∧ b2.toNat = a2 ∧ b3.toNat = a3 ∧ b4.toNat = a4 := by
  match l, h with
  | b :: b2 :: b3 :: b4 :: r, h =>
    simp only [mjPfx, Bool.and_eq_true, beq_iff_eq] at h
    exact ⟨b, b2, b3, b4, r, rfl, h.1, h.2.1, h.2.2.1, h.2.2.2.1⟩
  | [_, _, _], h => simp [mjPfx] at h
  | [_, _], h => simp [mjPfx] at h
  | [_], h => simp [mjPfx] at h
  | [], h => simp [mjPfx] at h

theorem dc_aaload {code : ByteArray} {pc : Nat} {bs : List Nat} (he : mjEnc (.aaload) = some bs) (h : mjPfx bs (code.data.toList.drop pc) = true) : decode code pc = .ok (.aaload, bs.length) := by
  cases he
  obtain ⟨b, r, e, h1⟩ := mjPfx_1 h
  exact de_0 e h1 (show Decoder.instr pc = Reader.u1 >>= _ from rfl) rfl
theorem dc_aastore {code : ByteArray} {pc : Nat} {bs : List Nat} (he : mjEnc (.aastore) = some bs) (h : mjPfx bs (code.data.toList.drop pc) = true) : decode code pc = .ok (.aastore, bs.length) := by
  cases he
  obtain ⟨b, r, e, h1⟩ := mjPfx_1 h
  exact de_0 e h1 (show Decoder.instr pc = Reader.u1 >>= _ from rfl) rfl
theorem dc_aload {code : ByteArray} {pc : Nat} {k : Nat} {bs : List Nat} (he : mjEnc (.aload k) = some bs) (h : mjPfx bs (code.data.toList.drop pc) = true) : decode code pc = .ok (.aload k, bs.length) := by
  simp only [mjEnc] at he
  split at he
  · cases he
    obtain ⟨b, b2, r, e, h1, h2⟩ := mjPfx_2 h
    have := de_1 (g := fun n => .aload n) e h1 (show Decoder.instr pc = Reader.u1 >>= _ from rfl) rfl
    rw [h2] at this
    exact this
  · cases he
theorem dc_aload_n {code : ByteArray} {pc : Nat} {k : Fin 4} {bs : List Nat} (he : mjEnc (.aload_n k) = some bs) (h : mjPfx bs (code.data.toList.drop pc) = true) : decode code pc = .ok (.aload_n k, bs.length) := by
  cases he
  obtain ⟨b, r, e, h1⟩ := mjPfx_1 h
  match k, h1 with
  | 0, h1 => exact de_0 e h1 (show Decoder.instr pc = Reader.u1 >>= _ from rfl) rfl
  | 1, h1 => exact de_0 e h1 (show Decoder.instr pc = Reader.u1 >>= _ from rfl) rfl
  | 2, h1 => exact de_0 e h1 (show Decoder.instr pc = Reader.u1 >>= _ from rfl) rfl
  | 3, h1 => exact de_0 e h1 (show Decoder.instr pc = Reader.u1 >>= _ from rfl) rfl
theorem dc_anewarray {code : ByteArray} {pc : Nat} {k : Nat} {bs : List Nat} (he : mjEnc (.anewarray k) = some bs) (h : mjPfx bs (code.data.toList.drop pc) = true) : decode code pc = .ok (.anewarray k, bs.length) := by
  simp only [mjEnc] at he
  split at he
  · cases he
    obtain ⟨b, b2, b3, r, e, h1, h2, h3⟩ := mjPfx_3 h
    have := de_2 (g := fun n => .anewarray n) e h1 (show Decoder.instr pc = Reader.u1 >>= _ from rfl) rfl
    rw [h2, h3, show k / 256 * 256 + k % 256 = k by omega] at this
    exact this
  · cases he
theorem dc_areturn {code : ByteArray} {pc : Nat} {bs : List Nat} (he : mjEnc (.areturn) = some bs) (h : mjPfx bs (code.data.toList.drop pc) = true) : decode code pc = .ok (.areturn, bs.length) := by
  cases he
  obtain ⟨b, r, e, h1⟩ := mjPfx_1 h
  exact de_0 e h1 (show Decoder.instr pc = Reader.u1 >>= _ from rfl) rfl
theorem dc_arraylength {code : ByteArray} {pc : Nat} {bs : List Nat} (he : mjEnc (.arraylength) = some bs) (h : mjPfx bs (code.data.toList.drop pc) = true) : decode code pc = .ok (.arraylength, bs.length) := by
  cases he
  obtain ⟨b, r, e, h1⟩ := mjPfx_1 h
  exact de_0 e h1 (show Decoder.instr pc = Reader.u1 >>= _ from rfl) rfl
theorem dc_astore {code : ByteArray} {pc : Nat} {k : Nat} {bs : List Nat} (he : mjEnc (.astore k) = some bs) (h : mjPfx bs (code.data.toList.drop pc) = true) : decode code pc = .ok (.astore k, bs.length) := by
  simp only [mjEnc] at he
  split at he
  · cases he
    obtain ⟨b, b2, r, e, h1, h2⟩ := mjPfx_2 h
    have := de_1 (g := fun n => .astore n) e h1 (show Decoder.instr pc = Reader.u1 >>= _ from rfl) rfl
    rw [h2] at this
    exact this
  · cases he
theorem dc_astore_n {code : ByteArray} {pc : Nat} {k : Fin 4} {bs : List Nat} (he : mjEnc (.astore_n k) = some bs) (h : mjPfx bs (code.data.toList.drop pc) = true) : decode code pc = .ok (.astore_n k, bs.length) := by
  cases he
  obtain ⟨b, r, e, h1⟩ := mjPfx_1 h
  match k, h1 with
  | 0, h1 => exact de_0 e h1 (show Decoder.instr pc = Reader.u1 >>= _ from rfl) rfl
  | 1, h1 => exact de_0 e h1 (show Decoder.instr pc = Reader.u1 >>= _ from rfl) rfl
  | 2, h1 => exact de_0 e h1 (show Decoder.instr pc = Reader.u1 >>= _ from rfl) rfl
  | 3, h1 => exact de_0 e h1 (show Decoder.instr pc = Reader.u1 >>= _ from rfl) rfl
theorem dc_athrow {code : ByteArray} {pc : Nat} {bs : List Nat} (he : mjEnc (.athrow) = some bs) (h : mjPfx bs (code.data.toList.drop pc) = true) : decode code pc = .ok (.athrow, bs.length) := by
  cases he
  obtain ⟨b, r, e, h1⟩ := mjPfx_1 h
  exact de_0 e h1 (show Decoder.instr pc = Reader.u1 >>= _ from rfl) rfl
theorem dc_baload {code : ByteArray} {pc : Nat} {bs : List Nat} (he : mjEnc (.baload) = some bs) (h : mjPfx bs (code.data.toList.drop pc) = true) : decode code pc = .ok (.baload, bs.length) := by
  cases he
  obtain ⟨b, r, e, h1⟩ := mjPfx_1 h
  exact de_0 e h1 (show Decoder.instr pc = Reader.u1 >>= _ from rfl) rfl
theorem dc_bastore {code : ByteArray} {pc : Nat} {bs : List Nat} (he : mjEnc (.bastore) = some bs) (h : mjPfx bs (code.data.toList.drop pc) = true) : decode code pc = .ok (.bastore, bs.length) := by
  cases he
  obtain ⟨b, r, e, h1⟩ := mjPfx_1 h
  exact de_0 e h1 (show Decoder.instr pc = Reader.u1 >>= _ from rfl) rfl
theorem dc_bipush {code : ByteArray} {pc : Nat} {k : Int} {bs : List Nat} (he : mjEnc (.bipush k) = some bs) (h : mjPfx bs (code.data.toList.drop pc) = true) : decode code pc = .ok (.bipush k, bs.length) := by
  simp only [mjEnc] at he
  split at he
  · rename_i z
    cases he
    obtain ⟨b, b2, r, e, h1, h2⟩ := mjPfx_2 h
    have := de_s1 (g := fun n => .bipush n) e h1 (show Decoder.instr pc = Reader.u1 >>= _ from rfl) rfl
    rw [sg_1 z h2] at this
    exact this
  · cases he
theorem dc_dup {code : ByteArray} {pc : Nat} {bs : List Nat} (he : mjEnc (.dup) = some bs) (h : mjPfx bs (code.data.toList.drop pc) = true) : decode code pc = .ok (.dup, bs.length) := by
  cases he
  obtain ⟨b, r, e, h1⟩ := mjPfx_1 h
  exact de_0 e h1 (show Decoder.instr pc = Reader.u1 >>= _ from rfl) rfl
theorem dc_dup2 {code : ByteArray} {pc : Nat} {bs : List Nat} (he : mjEnc (.dup2) = some bs) (h : mjPfx bs (code.data.toList.drop pc) = true) : decode code pc = .ok (.dup2, bs.length) := by
  cases he
  obtain ⟨b, r, e, h1⟩ := mjPfx_1 h
  exact de_0 e h1 (show Decoder.instr pc = Reader.u1 >>= _ from rfl) rfl
theorem dc_getfield {code : ByteArray} {pc : Nat} {k : Nat} {bs : List Nat} (he : mjEnc (.getfield k) = some bs) (h : mjPfx bs (code.data.toList.drop pc) = true) : decode code pc = .ok (.getfield k, bs.length) := by
  simp only [mjEnc] at he
  split at he
  · cases he
    obtain ⟨b, b2, b3, r, e, h1, h2, h3⟩ := mjPfx_3 h
    have := de_2 (g := fun n => .getfield n) e h1 (show Decoder.instr pc = Reader.u1 >>= _ from rfl) rfl
    rw [h2, h3, show k / 256 * 256 + k % 256 = k by omega] at this
    exact this
  · cases he
theorem dc_goto {code : ByteArray} {pc : Nat} {k : Int} {bs : List Nat} (he : mjEnc (.goto k) = some bs) (h : mjPfx bs (code.data.toList.drop pc) = true) : decode code pc = .ok (.goto k, bs.length) := by
  simp only [mjEnc] at he
  split at he
  · rename_i z
    cases he
    obtain ⟨b, b2, b3, r, e, h1, h2, h3⟩ := mjPfx_3 h
    have := de_s2 (g := fun n => .goto n) e h1 (show Decoder.instr pc = Reader.u1 >>= _ from rfl) rfl
    rw [sg_2 z h2 h3] at this
    exact this
  · cases he
theorem dc_i2b {code : ByteArray} {pc : Nat} {bs : List Nat} (he : mjEnc (.i2b) = some bs) (h : mjPfx bs (code.data.toList.drop pc) = true) : decode code pc = .ok (.i2b, bs.length) := by
  cases he
  obtain ⟨b, r, e, h1⟩ := mjPfx_1 h
  exact de_0 e h1 (show Decoder.instr pc = Reader.u1 >>= _ from rfl) rfl
theorem dc_i2l {code : ByteArray} {pc : Nat} {bs : List Nat} (he : mjEnc (.i2l) = some bs) (h : mjPfx bs (code.data.toList.drop pc) = true) : decode code pc = .ok (.i2l, bs.length) := by
  cases he
  obtain ⟨b, r, e, h1⟩ := mjPfx_1 h
  exact de_0 e h1 (show Decoder.instr pc = Reader.u1 >>= _ from rfl) rfl
theorem dc_iadd {code : ByteArray} {pc : Nat} {bs : List Nat} (he : mjEnc (.iadd) = some bs) (h : mjPfx bs (code.data.toList.drop pc) = true) : decode code pc = .ok (.iadd, bs.length) := by
  cases he
  obtain ⟨b, r, e, h1⟩ := mjPfx_1 h
  exact de_0 e h1 (show Decoder.instr pc = Reader.u1 >>= _ from rfl) rfl
theorem dc_iaload {code : ByteArray} {pc : Nat} {bs : List Nat} (he : mjEnc (.iaload) = some bs) (h : mjPfx bs (code.data.toList.drop pc) = true) : decode code pc = .ok (.iaload, bs.length) := by
  cases he
  obtain ⟨b, r, e, h1⟩ := mjPfx_1 h
  exact de_0 e h1 (show Decoder.instr pc = Reader.u1 >>= _ from rfl) rfl
theorem dc_iand {code : ByteArray} {pc : Nat} {bs : List Nat} (he : mjEnc (.iand) = some bs) (h : mjPfx bs (code.data.toList.drop pc) = true) : decode code pc = .ok (.iand, bs.length) := by
  cases he
  obtain ⟨b, r, e, h1⟩ := mjPfx_1 h
  exact de_0 e h1 (show Decoder.instr pc = Reader.u1 >>= _ from rfl) rfl
theorem dc_iastore {code : ByteArray} {pc : Nat} {bs : List Nat} (he : mjEnc (.iastore) = some bs) (h : mjPfx bs (code.data.toList.drop pc) = true) : decode code pc = .ok (.iastore, bs.length) := by
  cases he
  obtain ⟨b, r, e, h1⟩ := mjPfx_1 h
  exact de_0 e h1 (show Decoder.instr pc = Reader.u1 >>= _ from rfl) rfl
theorem dc_iconst {code : ByteArray} {pc : Nat} {k : Int} {bs : List Nat} (he : mjEnc (.iconst k) = some bs) (h : mjPfx bs (code.data.toList.drop pc) = true) : decode code pc = .ok (.iconst k, bs.length) := by
  simp only [mjEnc] at he
  split at he
  · rename_i q
    subst q
    cases he
    obtain ⟨b, r, e, h1⟩ := mjPfx_1 h
    exact de_0 e h1 (show Decoder.instr pc = Reader.u1 >>= _ from rfl) rfl
  split at he
  · rename_i q
    subst q
    cases he
    obtain ⟨b, r, e, h1⟩ := mjPfx_1 h
    exact de_0 e h1 (show Decoder.instr pc = Reader.u1 >>= _ from rfl) rfl
  split at he
  · rename_i q
    subst q
    cases he
    obtain ⟨b, r, e, h1⟩ := mjPfx_1 h
    exact de_0 e h1 (show Decoder.instr pc = Reader.u1 >>= _ from rfl) rfl
  split at he
  · rename_i q
    subst q
    cases he
    obtain ⟨b, r, e, h1⟩ := mjPfx_1 h
    exact de_0 e h1 (show Decoder.instr pc = Reader.u1 >>= _ from rfl) rfl
  split at he
  · rename_i q
    subst q
    cases he
    obtain ⟨b, r, e, h1⟩ := mjPfx_1 h
    exact de_0 e h1 (show Decoder.instr pc = Reader.u1 >>= _ from rfl) rfl
  split at he
  · rename_i q
    subst q
    cases he
    obtain ⟨b, r, e, h1⟩ := mjPfx_1 h
    exact de_0 e h1 (show Decoder.instr pc = Reader.u1 >>= _ from rfl) rfl
  split at he
  · rename_i q
    subst q
    cases he
    obtain ⟨b, r, e, h1⟩ := mjPfx_1 h
    exact de_0 e h1 (show Decoder.instr pc = Reader.u1 >>= _ from rfl) rfl
  cases he
theorem dc_ifCond {code : ByteArray} {pc : Nat} {q : Jvm.ClassFile.Cond} {k : Int} {bs : List Nat} (he : mjEnc (.ifCond q k) = some bs) (h : mjPfx bs (code.data.toList.drop pc) = true) : decode code pc = .ok (.ifCond q k, bs.length) := by
  simp only [mjEnc] at he
  split at he
  · rename_i z
    cases he
    obtain ⟨b, b2, b3, r, e, h1, h2, h3⟩ := mjPfx_3 h
    have e2 : Reader.signed 16 (b2.toNat * 256 + b3.toNat) = k := sg_2 z h2 h3
    cases q <;>
    · have := de_s2 (g := fun n => .ifCond _ n) e h1 (show Decoder.instr pc = Reader.u1 >>= _ from rfl) rfl
      rw [e2] at this
      exact this
  · cases he
theorem dc_if_icmp {code : ByteArray} {pc : Nat} {q : Jvm.ClassFile.Cond} {k : Int} {bs : List Nat} (he : mjEnc (.if_icmp q k) = some bs) (h : mjPfx bs (code.data.toList.drop pc) = true) : decode code pc = .ok (.if_icmp q k, bs.length) := by
  simp only [mjEnc] at he
  split at he
  · rename_i z
    cases he
    obtain ⟨b, b2, b3, r, e, h1, h2, h3⟩ := mjPfx_3 h
    have e2 : Reader.signed 16 (b2.toNat * 256 + b3.toNat) = k := sg_2 z h2 h3
    cases q <;>
    · have := de_s2 (g := fun n => .if_icmp _ n) e h1 (show Decoder.instr pc = Reader.u1 >>= _ from rfl) rfl
      rw [e2] at this
      exact this
  · cases he
theorem dc_iinc {code : ByteArray} {pc : Nat} {i : Nat} {k : Int} {bs : List Nat} (he : mjEnc (.iinc i k) = some bs) (h : mjPfx bs (code.data.toList.drop pc) = true) : decode code pc = .ok (.iinc i k, bs.length) := by
  simp only [mjEnc] at he
  split at he
  · rename_i z
    cases he
    obtain ⟨b, b2, b3, r, e, h1, h2, h3⟩ := mjPfx_3 h
    have := de_i e h1 (show Decoder.instr pc = Reader.u1 >>= _ from rfl) rfl
    rw [h2, sg_1 z.2 h3] at this
    exact this
  · cases he
theorem dc_iload {code : ByteArray} {pc : Nat} {k : Nat} {bs : List Nat} (he : mjEnc (.iload k) = some bs) (h : mjPfx bs (code.data.toList.drop pc) = true) : decode code pc = .ok (.iload k, bs.length) := by
  simp only [mjEnc] at he
  split at he
  · cases he
    obtain ⟨b, b2, r, e, h1, h2⟩ := mjPfx_2 h
    have := de_1 (g := fun n => .iload n) e h1 (show Decoder.instr pc = Reader.u1 >>= _ from rfl) rfl
    rw [h2] at this
    exact this
  · cases he
theorem dc_iload_n {code : ByteArray} {pc : Nat} {k : Fin 4} {bs : List Nat} (he : mjEnc (.iload_n k) = some bs) (h : mjPfx bs (code.data.toList.drop pc) = true) : decode code pc = .ok (.iload_n k, bs.length) := by
  cases he
  obtain ⟨b, r, e, h1⟩ := mjPfx_1 h
  match k, h1 with
  | 0, h1 => exact de_0 e h1 (show Decoder.instr pc = Reader.u1 >>= _ from rfl) rfl
  | 1, h1 => exact de_0 e h1 (show Decoder.instr pc = Reader.u1 >>= _ from rfl) rfl
  | 2, h1 => exact de_0 e h1 (show Decoder.instr pc = Reader.u1 >>= _ from rfl) rfl
  | 3, h1 => exact de_0 e h1 (show Decoder.instr pc = Reader.u1 >>= _ from rfl) rfl
theorem dc_imul {code : ByteArray} {pc : Nat} {bs : List Nat} (he : mjEnc (.imul) = some bs) (h : mjPfx bs (code.data.toList.drop pc) = true) : decode code pc = .ok (.imul, bs.length) := by
  cases he
  obtain ⟨b, r, e, h1⟩ := mjPfx_1 h
  exact de_0 e h1 (show Decoder.instr pc = Reader.u1 >>= _ from rfl) rfl
theorem dc_invokespecial {code : ByteArray} {pc : Nat} {k : Nat} {bs : List Nat} (he : mjEnc (.invokespecial k) = some bs) (h : mjPfx bs (code.data.toList.drop pc) = true) : decode code pc = .ok (.invokespecial k, bs.length) := by
  simp only [mjEnc] at he
  split at he
  · cases he
    obtain ⟨b, b2, b3, r, e, h1, h2, h3⟩ := mjPfx_3 h
    have := de_2 (g := fun n => .invokespecial n) e h1 (show Decoder.instr pc = Reader.u1 >>= _ from rfl) rfl
    rw [h2, h3, show k / 256 * 256 + k % 256 = k by omega] at this
    exact this
  · cases he
theorem dc_invokestatic {code : ByteArray} {pc : Nat} {k : Nat} {bs : List Nat} (he : mjEnc (.invokestatic k) = some bs) (h : mjPfx bs (code.data.toList.drop pc) = true) : decode code pc = .ok (.invokestatic k, bs.length) := by
  simp only [mjEnc] at he
  split at he
  · cases he
    obtain ⟨b, b2, b3, r, e, h1, h2, h3⟩ := mjPfx_3 h
    have := de_2 (g := fun n => .invokestatic n) e h1 (show Decoder.instr pc = Reader.u1 >>= _ from rfl) rfl
    rw [h2, h3, show k / 256 * 256 + k % 256 = k by omega] at this
    exact this
  · cases he
theorem dc_invokevirtual {code : ByteArray} {pc : Nat} {k : Nat} {bs : List Nat} (he : mjEnc (.invokevirtual k) = some bs) (h : mjPfx bs (code.data.toList.drop pc) = true) : decode code pc = .ok (.invokevirtual k, bs.length) := by
  simp only [mjEnc] at he
  split at he
  · cases he
    obtain ⟨b, b2, b3, r, e, h1, h2, h3⟩ := mjPfx_3 h
    have := de_2 (g := fun n => .invokevirtual n) e h1 (show Decoder.instr pc = Reader.u1 >>= _ from rfl) rfl
    rw [h2, h3, show k / 256 * 256 + k % 256 = k by omega] at this
    exact this
  · cases he
theorem dc_ior {code : ByteArray} {pc : Nat} {bs : List Nat} (he : mjEnc (.ior) = some bs) (h : mjPfx bs (code.data.toList.drop pc) = true) : decode code pc = .ok (.ior, bs.length) := by
  cases he
  obtain ⟨b, r, e, h1⟩ := mjPfx_1 h
  exact de_0 e h1 (show Decoder.instr pc = Reader.u1 >>= _ from rfl) rfl
theorem dc_irem {code : ByteArray} {pc : Nat} {bs : List Nat} (he : mjEnc (.irem) = some bs) (h : mjPfx bs (code.data.toList.drop pc) = true) : decode code pc = .ok (.irem, bs.length) := by
  cases he
  obtain ⟨b, r, e, h1⟩ := mjPfx_1 h
  exact de_0 e h1 (show Decoder.instr pc = Reader.u1 >>= _ from rfl) rfl
theorem dc_ireturn {code : ByteArray} {pc : Nat} {bs : List Nat} (he : mjEnc (.ireturn) = some bs) (h : mjPfx bs (code.data.toList.drop pc) = true) : decode code pc = .ok (.ireturn, bs.length) := by
  cases he
  obtain ⟨b, r, e, h1⟩ := mjPfx_1 h
  exact de_0 e h1 (show Decoder.instr pc = Reader.u1 >>= _ from rfl) rfl
theorem dc_ishl {code : ByteArray} {pc : Nat} {bs : List Nat} (he : mjEnc (.ishl) = some bs) (h : mjPfx bs (code.data.toList.drop pc) = true) : decode code pc = .ok (.ishl, bs.length) := by
  cases he
  obtain ⟨b, r, e, h1⟩ := mjPfx_1 h
  exact de_0 e h1 (show Decoder.instr pc = Reader.u1 >>= _ from rfl) rfl
theorem dc_ishr {code : ByteArray} {pc : Nat} {bs : List Nat} (he : mjEnc (.ishr) = some bs) (h : mjPfx bs (code.data.toList.drop pc) = true) : decode code pc = .ok (.ishr, bs.length) := by
  cases he
  obtain ⟨b, r, e, h1⟩ := mjPfx_1 h
  exact de_0 e h1 (show Decoder.instr pc = Reader.u1 >>= _ from rfl) rfl
theorem dc_istore {code : ByteArray} {pc : Nat} {k : Nat} {bs : List Nat} (he : mjEnc (.istore k) = some bs) (h : mjPfx bs (code.data.toList.drop pc) = true) : decode code pc = .ok (.istore k, bs.length) := by
  simp only [mjEnc] at he
  split at he
  · cases he
    obtain ⟨b, b2, r, e, h1, h2⟩ := mjPfx_2 h
    have := de_1 (g := fun n => .istore n) e h1 (show Decoder.instr pc = Reader.u1 >>= _ from rfl) rfl
    rw [h2] at this
    exact this
  · cases he
theorem dc_istore_n {code : ByteArray} {pc : Nat} {k : Fin 4} {bs : List Nat} (he : mjEnc (.istore_n k) = some bs) (h : mjPfx bs (code.data.toList.drop pc) = true) : decode code pc = .ok (.istore_n k, bs.length) := by
  cases he
  obtain ⟨b, r, e, h1⟩ := mjPfx_1 h
  match k, h1 with
  | 0, h1 => exact de_0 e h1 (show Decoder.instr pc = Reader.u1 >>= _ from rfl) rfl
  | 1, h1 => exact de_0 e h1 (show Decoder.instr pc = Reader.u1 >>= _ from rfl) rfl
  | 2, h1 => exact de_0 e h1 (show Decoder.instr pc = Reader.u1 >>= _ from rfl) rfl
  | 3, h1 => exact de_0 e h1 (show Decoder.instr pc = Reader.u1 >>= _ from rfl) rfl
theorem dc_isub {code : ByteArray} {pc : Nat} {bs : List Nat} (he : mjEnc (.isub) = some bs) (h : mjPfx bs (code.data.toList.drop pc) = true) : decode code pc = .ok (.isub, bs.length) := by
  cases he
  obtain ⟨b, r, e, h1⟩ := mjPfx_1 h
  exact de_0 e h1 (show Decoder.instr pc = Reader.u1 >>= _ from rfl) rfl
theorem dc_iushr {code : ByteArray} {pc : Nat} {bs : List Nat} (he : mjEnc (.iushr) = some bs) (h : mjPfx bs (code.data.toList.drop pc) = true) : decode code pc = .ok (.iushr, bs.length) := by
  cases he
  obtain ⟨b, r, e, h1⟩ := mjPfx_1 h
  exact de_0 e h1 (show Decoder.instr pc = Reader.u1 >>= _ from rfl) rfl
theorem dc_ixor {code : ByteArray} {pc : Nat} {bs : List Nat} (he : mjEnc (.ixor) = some bs) (h : mjPfx bs (code.data.toList.drop pc) = true) : decode code pc = .ok (.ixor, bs.length) := by
  cases he
  obtain ⟨b, r, e, h1⟩ := mjPfx_1 h
  exact de_0 e h1 (show Decoder.instr pc = Reader.u1 >>= _ from rfl) rfl
theorem dc_l2i {code : ByteArray} {pc : Nat} {bs : List Nat} (he : mjEnc (.l2i) = some bs) (h : mjPfx bs (code.data.toList.drop pc) = true) : decode code pc = .ok (.l2i, bs.length) := by
  cases he
  obtain ⟨b, r, e, h1⟩ := mjPfx_1 h
  exact de_0 e h1 (show Decoder.instr pc = Reader.u1 >>= _ from rfl) rfl
theorem dc_ladd {code : ByteArray} {pc : Nat} {bs : List Nat} (he : mjEnc (.ladd) = some bs) (h : mjPfx bs (code.data.toList.drop pc) = true) : decode code pc = .ok (.ladd, bs.length) := by
  cases he
  obtain ⟨b, r, e, h1⟩ := mjPfx_1 h
  exact de_0 e h1 (show Decoder.instr pc = Reader.u1 >>= _ from rfl) rfl
theorem dc_laload {code : ByteArray} {pc : Nat} {bs : List Nat} (he : mjEnc (.laload) = some bs) (h : mjPfx bs (code.data.toList.drop pc) = true) : decode code pc = .ok (.laload, bs.length) := by
  cases he
  obtain ⟨b, r, e, h1⟩ := mjPfx_1 h
  exact de_0 e h1 (show Decoder.instr pc = Reader.u1 >>= _ from rfl) rfl
theorem dc_land {code : ByteArray} {pc : Nat} {bs : List Nat} (he : mjEnc (.land) = some bs) (h : mjPfx bs (code.data.toList.drop pc) = true) : decode code pc = .ok (.land, bs.length) := by
  cases he
  obtain ⟨b, r, e, h1⟩ := mjPfx_1 h
  exact de_0 e h1 (show Decoder.instr pc = Reader.u1 >>= _ from rfl) rfl
theorem dc_lastore {code : ByteArray} {pc : Nat} {bs : List Nat} (he : mjEnc (.lastore) = some bs) (h : mjPfx bs (code.data.toList.drop pc) = true) : decode code pc = .ok (.lastore, bs.length) := by
  cases he
  obtain ⟨b, r, e, h1⟩ := mjPfx_1 h
  exact de_0 e h1 (show Decoder.instr pc = Reader.u1 >>= _ from rfl) rfl
theorem dc_lcmp {code : ByteArray} {pc : Nat} {bs : List Nat} (he : mjEnc (.lcmp) = some bs) (h : mjPfx bs (code.data.toList.drop pc) = true) : decode code pc = .ok (.lcmp, bs.length) := by
  cases he
  obtain ⟨b, r, e, h1⟩ := mjPfx_1 h
  exact de_0 e h1 (show Decoder.instr pc = Reader.u1 >>= _ from rfl) rfl
theorem dc_lconst {code : ByteArray} {pc : Nat} {k : Fin 2} {bs : List Nat} (he : mjEnc (.lconst k) = some bs) (h : mjPfx bs (code.data.toList.drop pc) = true) : decode code pc = .ok (.lconst k, bs.length) := by
  cases he
  obtain ⟨b, r, e, h1⟩ := mjPfx_1 h
  match k, h1 with
  | 0, h1 => exact de_0 e h1 (show Decoder.instr pc = Reader.u1 >>= _ from rfl) rfl
  | 1, h1 => exact de_0 e h1 (show Decoder.instr pc = Reader.u1 >>= _ from rfl) rfl
theorem dc_ldc {code : ByteArray} {pc : Nat} {k : Nat} {bs : List Nat} (he : mjEnc (.ldc k) = some bs) (h : mjPfx bs (code.data.toList.drop pc) = true) : decode code pc = .ok (.ldc k, bs.length) := by
  simp only [mjEnc] at he
  split at he
  · cases he
    obtain ⟨b, b2, r, e, h1, h2⟩ := mjPfx_2 h
    have := de_1 (g := fun n => .ldc n) e h1 (show Decoder.instr pc = Reader.u1 >>= _ from rfl) rfl
    rw [h2] at this
    exact this
  · cases he
theorem dc_ldc2_w {code : ByteArray} {pc : Nat} {k : Nat} {bs : List Nat} (he : mjEnc (.ldc2_w k) = some bs) (h : mjPfx bs (code.data.toList.drop pc) = true) : decode code pc = .ok (.ldc2_w k, bs.length) := by
  simp only [mjEnc] at he
  split at he
  · cases he
    obtain ⟨b, b2, b3, r, e, h1, h2, h3⟩ := mjPfx_3 h
    have := de_2 (g := fun n => .ldc2_w n) e h1 (show Decoder.instr pc = Reader.u1 >>= _ from rfl) rfl
    rw [h2, h3, show k / 256 * 256 + k % 256 = k by omega] at this
    exact this
  · cases he
theorem dc_ldc_w {code : ByteArray} {pc : Nat} {k : Nat} {bs : List Nat} (he : mjEnc (.ldc_w k) = some bs) (h : mjPfx bs (code.data.toList.drop pc) = true) : decode code pc = .ok (.ldc_w k, bs.length) := by
  simp only [mjEnc] at he
  split at he
  · cases he
    obtain ⟨b, b2, b3, r, e, h1, h2, h3⟩ := mjPfx_3 h
    have := de_2 (g := fun n => .ldc_w n) e h1 (show Decoder.instr pc = Reader.u1 >>= _ from rfl) rfl
    rw [h2, h3, show k / 256 * 256 + k % 256 = k by omega] at this
    exact this
  · cases he
theorem dc_lload {code : ByteArray} {pc : Nat} {k : Nat} {bs : List Nat} (he : mjEnc (.lload k) = some bs) (h : mjPfx bs (code.data.toList.drop pc) = true) : decode code pc = .ok (.lload k, bs.length) := by
  simp only [mjEnc] at he
  split at he
  · cases he
    obtain ⟨b, b2, r, e, h1, h2⟩ := mjPfx_2 h
    have := de_1 (g := fun n => .lload n) e h1 (show Decoder.instr pc = Reader.u1 >>= _ from rfl) rfl
    rw [h2] at this
    exact this
  · cases he
theorem dc_lload_n {code : ByteArray} {pc : Nat} {k : Fin 4} {bs : List Nat} (he : mjEnc (.lload_n k) = some bs) (h : mjPfx bs (code.data.toList.drop pc) = true) : decode code pc = .ok (.lload_n k, bs.length) := by
  cases he
  obtain ⟨b, r, e, h1⟩ := mjPfx_1 h
  match k, h1 with
  | 0, h1 => exact de_0 e h1 (show Decoder.instr pc = Reader.u1 >>= _ from rfl) rfl
  | 1, h1 => exact de_0 e h1 (show Decoder.instr pc = Reader.u1 >>= _ from rfl) rfl
  | 2, h1 => exact de_0 e h1 (show Decoder.instr pc = Reader.u1 >>= _ from rfl) rfl
  | 3, h1 => exact de_0 e h1 (show Decoder.instr pc = Reader.u1 >>= _ from rfl) rfl
theorem dc_lmul {code : ByteArray} {pc : Nat} {bs : List Nat} (he : mjEnc (.lmul) = some bs) (h : mjPfx bs (code.data.toList.drop pc) = true) : decode code pc = .ok (.lmul, bs.length) := by
  cases he
  obtain ⟨b, r, e, h1⟩ := mjPfx_1 h
  exact de_0 e h1 (show Decoder.instr pc = Reader.u1 >>= _ from rfl) rfl
theorem dc_lor {code : ByteArray} {pc : Nat} {bs : List Nat} (he : mjEnc (.lor) = some bs) (h : mjPfx bs (code.data.toList.drop pc) = true) : decode code pc = .ok (.lor, bs.length) := by
  cases he
  obtain ⟨b, r, e, h1⟩ := mjPfx_1 h
  exact de_0 e h1 (show Decoder.instr pc = Reader.u1 >>= _ from rfl) rfl
theorem dc_lreturn {code : ByteArray} {pc : Nat} {bs : List Nat} (he : mjEnc (.lreturn) = some bs) (h : mjPfx bs (code.data.toList.drop pc) = true) : decode code pc = .ok (.lreturn, bs.length) := by
  cases he
  obtain ⟨b, r, e, h1⟩ := mjPfx_1 h
  exact de_0 e h1 (show Decoder.instr pc = Reader.u1 >>= _ from rfl) rfl
theorem dc_lshl {code : ByteArray} {pc : Nat} {bs : List Nat} (he : mjEnc (.lshl) = some bs) (h : mjPfx bs (code.data.toList.drop pc) = true) : decode code pc = .ok (.lshl, bs.length) := by
  cases he
  obtain ⟨b, r, e, h1⟩ := mjPfx_1 h
  exact de_0 e h1 (show Decoder.instr pc = Reader.u1 >>= _ from rfl) rfl
theorem dc_lshr {code : ByteArray} {pc : Nat} {bs : List Nat} (he : mjEnc (.lshr) = some bs) (h : mjPfx bs (code.data.toList.drop pc) = true) : decode code pc = .ok (.lshr, bs.length) := by
  cases he
  obtain ⟨b, r, e, h1⟩ := mjPfx_1 h
  exact de_0 e h1 (show Decoder.instr pc = Reader.u1 >>= _ from rfl) rfl
theorem dc_lstore {code : ByteArray} {pc : Nat} {k : Nat} {bs : List Nat} (he : mjEnc (.lstore k) = some bs) (h : mjPfx bs (code.data.toList.drop pc) = true) : decode code pc = .ok (.lstore k, bs.length) := by
  simp only [mjEnc] at he
  split at he
  · cases he
    obtain ⟨b, b2, r, e, h1, h2⟩ := mjPfx_2 h
    have := de_1 (g := fun n => .lstore n) e h1 (show Decoder.instr pc = Reader.u1 >>= _ from rfl) rfl
    rw [h2] at this
    exact this
  · cases he
theorem dc_lstore_n {code : ByteArray} {pc : Nat} {k : Fin 4} {bs : List Nat} (he : mjEnc (.lstore_n k) = some bs) (h : mjPfx bs (code.data.toList.drop pc) = true) : decode code pc = .ok (.lstore_n k, bs.length) := by
  cases he
  obtain ⟨b, r, e, h1⟩ := mjPfx_1 h
  match k, h1 with
  | 0, h1 => exact de_0 e h1 (show Decoder.instr pc = Reader.u1 >>= _ from rfl) rfl
  | 1, h1 => exact de_0 e h1 (show Decoder.instr pc = Reader.u1 >>= _ from rfl) rfl
  | 2, h1 => exact de_0 e h1 (show Decoder.instr pc = Reader.u1 >>= _ from rfl) rfl
  | 3, h1 => exact de_0 e h1 (show Decoder.instr pc = Reader.u1 >>= _ from rfl) rfl
theorem dc_lsub {code : ByteArray} {pc : Nat} {bs : List Nat} (he : mjEnc (.lsub) = some bs) (h : mjPfx bs (code.data.toList.drop pc) = true) : decode code pc = .ok (.lsub, bs.length) := by
  cases he
  obtain ⟨b, r, e, h1⟩ := mjPfx_1 h
  exact de_0 e h1 (show Decoder.instr pc = Reader.u1 >>= _ from rfl) rfl
theorem dc_lushr {code : ByteArray} {pc : Nat} {bs : List Nat} (he : mjEnc (.lushr) = some bs) (h : mjPfx bs (code.data.toList.drop pc) = true) : decode code pc = .ok (.lushr, bs.length) := by
  cases he
  obtain ⟨b, r, e, h1⟩ := mjPfx_1 h
  exact de_0 e h1 (show Decoder.instr pc = Reader.u1 >>= _ from rfl) rfl
theorem dc_lxor {code : ByteArray} {pc : Nat} {bs : List Nat} (he : mjEnc (.lxor) = some bs) (h : mjPfx bs (code.data.toList.drop pc) = true) : decode code pc = .ok (.lxor, bs.length) := by
  cases he
  obtain ⟨b, r, e, h1⟩ := mjPfx_1 h
  exact de_0 e h1 (show Decoder.instr pc = Reader.u1 >>= _ from rfl) rfl
theorem dc_multianewarray {code : ByteArray} {pc : Nat} {i n : Nat} {bs : List Nat} (he : mjEnc (.multianewarray i n) = some bs) (h : mjPfx bs (code.data.toList.drop pc) = true) : decode code pc = .ok (.multianewarray i n, bs.length) := by
  simp only [mjEnc] at he
  split at he
  · rename_i q
    cases he
    obtain ⟨b, b2, b3, b4, r, e, h1, h2, h3, h4⟩ := mjPfx_4 h
    have := de_m e h1 (by rw [h4]; exact q.2.1) (show Decoder.instr pc = Reader.u1 >>= _ from rfl) rfl
    rw [h2, h3, h4, show i / 256 * 256 + i % 256 = i by omega] at this
    exact this
  · cases he
theorem dc_new {code : ByteArray} {pc : Nat} {k : Nat} {bs : List Nat} (he : mjEnc (.new k) = some bs) (h : mjPfx bs (code.data.toList.drop pc) = true) : decode code pc = .ok (.new k, bs.length) := by
  simp only [mjEnc] at he
  split at he
  · cases he
    obtain ⟨b, b2, b3, r, e, h1, h2, h3⟩ := mjPfx_3 h
    have := de_2 (g := fun n => .new n) e h1 (show Decoder.instr pc = Reader.u1 >>= _ from rfl) rfl
    rw [h2, h3, show k / 256 * 256 + k % 256 = k by omega] at this
    exact this
  · cases he
theorem dc_newarray {code : ByteArray} {pc : Nat} {t : ArrayType} {bs : List Nat} (he : mjEnc (.newarray t) = some bs) (h : mjPfx bs (code.data.toList.drop pc) = true) : decode code pc = .ok (.newarray t, bs.length) := by
  cases t <;> simp only [mjEnc] at he <;> first | (cases he; done) | skip
  all_goals
    cases he
    obtain ⟨b, b2, r, e, h1, h2⟩ := mjPfx_2 h
    exact de_n e h1 (show Decoder.instr pc = Reader.u1 >>= _ from rfl) rfl (by simp [h2])
theorem dc_pop {code : ByteArray} {pc : Nat} {bs : List Nat} (he : mjEnc (.pop) = some bs) (h : mjPfx bs (code.data.toList.drop pc) = true) : decode code pc = .ok (.pop, bs.length) := by
  cases he
  obtain ⟨b, r, e, h1⟩ := mjPfx_1 h
  exact de_0 e h1 (show Decoder.instr pc = Reader.u1 >>= _ from rfl) rfl
theorem dc_putfield {code : ByteArray} {pc : Nat} {k : Nat} {bs : List Nat} (he : mjEnc (.putfield k) = some bs) (h : mjPfx bs (code.data.toList.drop pc) = true) : decode code pc = .ok (.putfield k, bs.length) := by
  simp only [mjEnc] at he
  split at he
  · cases he
    obtain ⟨b, b2, b3, r, e, h1, h2, h3⟩ := mjPfx_3 h
    have := de_2 (g := fun n => .putfield n) e h1 (show Decoder.instr pc = Reader.u1 >>= _ from rfl) rfl
    rw [h2, h3, show k / 256 * 256 + k % 256 = k by omega] at this
    exact this
  · cases he
theorem dc_return_ {code : ByteArray} {pc : Nat} {bs : List Nat} (he : mjEnc (.return_) = some bs) (h : mjPfx bs (code.data.toList.drop pc) = true) : decode code pc = .ok (.return_, bs.length) := by
  cases he
  obtain ⟨b, r, e, h1⟩ := mjPfx_1 h
  exact de_0 e h1 (show Decoder.instr pc = Reader.u1 >>= _ from rfl) rfl
theorem dc_sipush {code : ByteArray} {pc : Nat} {k : Int} {bs : List Nat} (he : mjEnc (.sipush k) = some bs) (h : mjPfx bs (code.data.toList.drop pc) = true) : decode code pc = .ok (.sipush k, bs.length) := by
  simp only [mjEnc] at he
  split at he
  · rename_i z
    cases he
    obtain ⟨b, b2, b3, r, e, h1, h2, h3⟩ := mjPfx_3 h
    have := de_s2 (g := fun n => .sipush n) e h1 (show Decoder.instr pc = Reader.u1 >>= _ from rfl) rfl
    rw [sg_2 z h2 h3] at this
    exact this
  · cases he
theorem mjEnc_ok {code : ByteArray} {pc : Nat} {i : Instr} {bs : List Nat} (he : mjEnc i = some bs) (h : mjPfx bs (code.data.toList.drop pc) = true) : decode code pc = .ok (i, bs.length) := by
  cases i with
  | aaload => exact dc_aaload he h
  | aastore => exact dc_aastore he h
  | aload k => exact dc_aload he h
  | aload_n k => exact dc_aload_n he h
  | anewarray k => exact dc_anewarray he h
  | areturn => exact dc_areturn he h
  | arraylength => exact dc_arraylength he h
  | astore k => exact dc_astore he h
  | astore_n k => exact dc_astore_n he h
  | athrow => exact dc_athrow he h
  | baload => exact dc_baload he h
  | bastore => exact dc_bastore he h
  | bipush k => exact dc_bipush he h
  | dup => exact dc_dup he h
  | dup2 => exact dc_dup2 he h
  | getfield k => exact dc_getfield he h
  | goto k => exact dc_goto he h
  | i2b => exact dc_i2b he h
  | i2l => exact dc_i2l he h
  | iadd => exact dc_iadd he h
  | iaload => exact dc_iaload he h
  | iand => exact dc_iand he h
  | iastore => exact dc_iastore he h
  | iconst k => exact dc_iconst he h
  | ifCond q k => exact dc_ifCond he h
  | if_icmp q k => exact dc_if_icmp he h
  | iinc i k => exact dc_iinc he h
  | iload k => exact dc_iload he h
  | iload_n k => exact dc_iload_n he h
  | imul => exact dc_imul he h
  | invokespecial k => exact dc_invokespecial he h
  | invokestatic k => exact dc_invokestatic he h
  | invokevirtual k => exact dc_invokevirtual he h
  | ior => exact dc_ior he h
  | irem => exact dc_irem he h
  | ireturn => exact dc_ireturn he h
  | ishl => exact dc_ishl he h
  | ishr => exact dc_ishr he h
  | istore k => exact dc_istore he h
  | istore_n k => exact dc_istore_n he h
  | isub => exact dc_isub he h
  | iushr => exact dc_iushr he h
  | ixor => exact dc_ixor he h
  | l2i => exact dc_l2i he h
  | ladd => exact dc_ladd he h
  | laload => exact dc_laload he h
  | land => exact dc_land he h
  | lastore => exact dc_lastore he h
  | lcmp => exact dc_lcmp he h
  | lconst k => exact dc_lconst he h
  | ldc k => exact dc_ldc he h
  | ldc2_w k => exact dc_ldc2_w he h
  | ldc_w k => exact dc_ldc_w he h
  | lload k => exact dc_lload he h
  | lload_n k => exact dc_lload_n he h
  | lmul => exact dc_lmul he h
  | lor => exact dc_lor he h
  | lreturn => exact dc_lreturn he h
  | lshl => exact dc_lshl he h
  | lshr => exact dc_lshr he h
  | lstore k => exact dc_lstore he h
  | lstore_n k => exact dc_lstore_n he h
  | lsub => exact dc_lsub he h
  | lushr => exact dc_lushr he h
  | lxor => exact dc_lxor he h
  | multianewarray i n => exact dc_multianewarray he h
  | new k => exact dc_new he h
  | newarray t => exact dc_newarray he h
  | pop => exact dc_pop he h
  | putfield k => exact dc_putfield he h
  | return_ => exact dc_return_ he h
  | sipush k => exact dc_sipush he h
  | _ => cases he
/-- along the code: each row is what the bytes at its place say -/
noncomputable def mjWalk (code : ByteArray) : List UInt8 → Nat → List (Nat × mjX) → Bool
  | _, _, [] => true
  | bl, pos, q :: r => q.1 == pos && (match mjEnc q.2.1 with
      | some bs => mjPfx bs bl && q.2.2.1 == bs.length
      | none => (match decode code q.1 with | .ok (i, n) => decide (i = q.2.1) && decide (n = q.2.2.1) | .error _ => false)) && mjWalk code (bl.drop q.2.2.1) (pos + q.2.2.1) r
theorem mjWalk_ok {code : ByteArray} : ∀ (l : List (Nat × mjX)) (pos : Nat), mjWalk code (code.data.toList.drop pos) pos l = true → ∀ q ∈ l, decode code q.1 = .ok (q.2.1, q.2.2.1)
  | [], _, _, _, hq => by cases hq
  | x :: r, pos, h, q, hq => by
    simp only [mjWalk, Bool.and_eq_true, beq_iff_eq] at h
    obtain ⟨⟨h1, h2⟩, h3⟩ := h
    rw [List.drop_drop] at h3
    rcases List.mem_cons.mp hq with rfl | hq
    · split at h2
      · rename_i bs he
        simp only [Bool.and_eq_true, beq_iff_eq] at h2
        subst h1
        rw [h2.2]
        exact mjEnc_ok he h2.1
      · split at h2
        · rename_i i n hd
          simp only [Bool.and_eq_true, decide_eq_true_eq] at h2
          rw [hd, h2.1, h2.2]
        · cases h2
    · exact mjWalk_ok r (pos + x.2.2.1) h3 q hq
end MJDEC

/-! the deep machine's equations, an instruction each -/
section DEN
variable {M pc : Nat} {L : dL} {st : List Value} {σ : dS} {cc : ByteArray}
theorem dstep_eq {i : Instr} {n : Nat} (hc : dcode M = cc) (hd : decode cc pc = .ok (i, n)) (hn : dlen i n = true) : dstep M pc L st σ = dexec M pc i L st σ := by
  subst hc
  unfold dstep
  rw [hd]
  exact if_pos hn
theorem dn_iconst {n : Int} {v : Int32} (hc : dcode M = cc) (hd : decode cc pc = .ok (.iconst n, 1)) (hv : Int32.ofInt n = v) : den M pc L st σ = den M (pc + 1) L (.int v :: st) σ := den_nx (by rw [dstep_eq hc hd rfl, ← hv]; rfl)
theorem dn_bipush {n : Int} {v : Int32} (hc : dcode M = cc) (hd : decode cc pc = .ok (.bipush n, 2)) (hv : (Int8.ofInt n).toInt32 = v) : den M pc L st σ = den M (pc + 2) L (.int v :: st) σ := den_nx (by rw [dstep_eq hc hd rfl, ← hv]; rfl)
theorem dn_sipush {n : Int} {v : Int32} (hc : dcode M = cc) (hd : decode cc pc = .ok (.sipush n, 3)) (hv : (Int16.ofInt n).toInt32 = v) : den M pc L st σ = den M (pc + 3) L (.int v :: st) σ := den_nx (by rw [dstep_eq hc hd rfl, ← hv]; rfl)
theorem dn_lconst {n : Fin 2} {v : Int64} (hc : dcode M = cc) (hd : decode cc pc = .ok (.lconst n, 1)) (hv : Int64.ofNat n = v) : den M pc L st σ = den M (pc + 1) L (.long v :: st) σ := den_nx (by rw [dstep_eq hc hd rfl, ← hv]; rfl)
theorem dn_ldc {k : Nat} {v : Int32 × Nat} (hc : dcode M = cc) (hd : decode cc pc = .ok (.ldc k, 2)) (hv : dit (down M) k = some v) : den M pc L st σ = den M (pc + 2) L (.int v.1 :: st) σ := den_nx (by rw [dstep_eq hc hd rfl]; simp only [dexec, hv]; rfl)
theorem dn_ldcS {k j : Nat} (hc : dcode M = cc) (hd : decode cc pc = .ok (.ldc k, 2)) (hv : dit (down M) k = none) (hs : dsr (down M) k = some j) : den M pc L st σ = den M (pc + 2) L (.ref (dN + 1 + j) :: st) σ := den_nx (by rw [dstep_eq hc hd rfl]; simp only [dexec, hv, hs]; rfl)
theorem dn_ldc_w {k : Nat} {v : Int32 × Nat} (hc : dcode M = cc) (hd : decode cc pc = .ok (.ldc_w k, 3)) (hv : dit (down M) k = some v) : den M pc L st σ = den M (pc + 3) L (.int v.1 :: st) σ := den_nx (by rw [dstep_eq hc hd rfl]; simp only [dexec, hv]; rfl)
theorem dn_ldc2_w {k p : Nat} {w v : Int64} (hc : dcode M = cc) (hd : decode cc pc = .ok (.ldc2_w k, 3)) (hv : dlg (down M) k = some (w, p)) (hw : w = v) : den M pc L st σ = den M (pc + 3) L (.long v :: st) σ := den_nx (by rw [dstep_eq hc hd rfl]; subst hw; simp only [dexec, hv]; rfl)
theorem dn_iload_n {k : Fin 4} {x : Int32} (hc : dcode M = cc) (hd : decode cc pc = .ok (.iload_n k, 1)) (hv : dldI L k = some x) : den M pc L st σ = den M (pc + 1) L (.int x :: st) σ := den_nx (by rw [dstep_eq hc hd rfl]; simp only [dexec, hv]; rfl)
theorem dn_iload {k : Nat} {x : Int32} (hc : dcode M = cc) (hd : decode cc pc = .ok (.iload k, 2)) (hv : dldI L k = some x) : den M pc L st σ = den M (pc + 2) L (.int x :: st) σ := den_nx (by rw [dstep_eq hc hd rfl]; simp only [dexec, hv]; rfl)
theorem dn_lload_n {k : Fin 4} {x : Int64} (hc : dcode M = cc) (hd : decode cc pc = .ok (.lload_n k, 1)) (hv : dldL L k = some x) : den M pc L st σ = den M (pc + 1) L (.long x :: st) σ := den_nx (by rw [dstep_eq hc hd rfl]; simp only [dexec, hv]; rfl)
theorem dn_lload {k : Nat} {x : Int64} (hc : dcode M = cc) (hd : decode cc pc = .ok (.lload k, 2)) (hv : dldL L k = some x) : den M pc L st σ = den M (pc + 2) L (.long x :: st) σ := den_nx (by rw [dstep_eq hc hd rfl]; simp only [dexec, hv]; rfl)
theorem dn_aload_n {k : Fin 4} {x : Nat} (hc : dcode M = cc) (hd : decode cc pc = .ok (.aload_n k, 1)) (hv : dldR L k = some x) : den M pc L st σ = den M (pc + 1) L (.ref x :: st) σ := den_nx (by rw [dstep_eq hc hd rfl]; simp only [dexec, hv]; rfl)
theorem dn_aload {k : Nat} {x : Nat} (hc : dcode M = cc) (hd : decode cc pc = .ok (.aload k, 2)) (hv : dldR L k = some x) : den M pc L st σ = den M (pc + 2) L (.ref x :: st) σ := den_nx (by rw [dstep_eq hc hd rfl]; simp only [dexec, hv]; rfl)
theorem dn_istore_n {k : Fin 4} {x : Int32} {L' : dL} (hc : dcode M = cc) (hd : decode cc pc = .ok (.istore_n k, 1)) (hv : dst1 L k (.int x) = some L') : den M pc L (.int x :: st) σ = den M (pc + 1) L' st σ := den_nx (by rw [dstep_eq hc hd rfl]; simp only [dexec, dpi, Option.bind_some, hv]; rfl)
theorem dn_istore {k : Nat} {x : Int32} {L' : dL} (hc : dcode M = cc) (hd : decode cc pc = .ok (.istore k, 2)) (hv : dst1 L k (.int x) = some L') : den M pc L (.int x :: st) σ = den M (pc + 2) L' st σ := den_nx (by rw [dstep_eq hc hd rfl]; simp only [dexec, dpi, Option.bind_some, hv]; rfl)
theorem dn_lstore_n {k : Fin 4} {x : Int64} {L' : dL} (hc : dcode M = cc) (hd : decode cc pc = .ok (.lstore_n k, 1)) (hv : dst2 L k (.long x) = some L') : den M pc L (.long x :: st) σ = den M (pc + 1) L' st σ := den_nx (by rw [dstep_eq hc hd rfl]; simp only [dexec, dpl, Option.bind_some, hv]; rfl)
theorem dn_lstore {k : Nat} {x : Int64} {L' : dL} (hc : dcode M = cc) (hd : decode cc pc = .ok (.lstore k, 2)) (hv : dst2 L k (.long x) = some L') : den M pc L (.long x :: st) σ = den M (pc + 2) L' st σ := den_nx (by rw [dstep_eq hc hd rfl]; simp only [dexec, dpl, Option.bind_some, hv]; rfl)
theorem dn_astore_n {k : Fin 4} {x : Nat} {L' : dL} (hc : dcode M = cc) (hd : decode cc pc = .ok (.astore_n k, 1)) (hv : dst1 L k (.ref x) = some L') : den M pc L (.ref x :: st) σ = den M (pc + 1) L' st σ := den_nx (by rw [dstep_eq hc hd rfl]; simp only [dexec, dpr, Option.bind_some, hv]; rfl)
theorem dn_astore {k : Nat} {x : Nat} {L' : dL} (hc : dcode M = cc) (hd : decode cc pc = .ok (.astore k, 2)) (hv : dst1 L k (.ref x) = some L') : den M pc L (.ref x :: st) σ = den M (pc + 2) L' st σ := den_nx (by rw [dstep_eq hc hd rfl]; simp only [dexec, dpr, Option.bind_some, hv]; rfl)
theorem dn_iinc {k : Nat} {n : Int} {x v : Int32} {L' : dL} (hc : dcode M = cc) (hd : decode cc pc = .ok (.iinc k n, 3)) (hl : dldI L k = some x) (hcv : Int32.ofInt n = v) (hv : dst1 L k (.int (x + v)) = some L') : den M pc L st σ = den M (pc + 3) L' st σ := den_nx (by rw [dstep_eq hc hd rfl]; subst hcv; simp only [dexec, hl, Option.bind_some, hv]; rfl)
theorem dn_iadd {x y : Int32} (hc : dcode M = cc) (hd : decode cc pc = .ok (.iadd, 1)) : den M pc L (.int y :: .int x :: st) σ = den M (pc + 1) L (.int (x + y) :: st) σ := den_nx (by rw [dstep_eq hc hd rfl]; rfl)
theorem dn_isub {x y : Int32} (hc : dcode M = cc) (hd : decode cc pc = .ok (.isub, 1)) : den M pc L (.int y :: .int x :: st) σ = den M (pc + 1) L (.int (x - y) :: st) σ := den_nx (by rw [dstep_eq hc hd rfl]; rfl)
theorem dn_imul {x y : Int32} (hc : dcode M = cc) (hd : decode cc pc = .ok (.imul, 1)) : den M pc L (.int y :: .int x :: st) σ = den M (pc + 1) L (.int (x * y) :: st) σ := den_nx (by rw [dstep_eq hc hd rfl]; rfl)
theorem dn_iand {x y : Int32} (hc : dcode M = cc) (hd : decode cc pc = .ok (.iand, 1)) : den M pc L (.int y :: .int x :: st) σ = den M (pc + 1) L (.int (x &&& y) :: st) σ := den_nx (by rw [dstep_eq hc hd rfl]; rfl)
theorem dn_ior {x y : Int32} (hc : dcode M = cc) (hd : decode cc pc = .ok (.ior, 1)) : den M pc L (.int y :: .int x :: st) σ = den M (pc + 1) L (.int (x ||| y) :: st) σ := den_nx (by rw [dstep_eq hc hd rfl]; rfl)
theorem dn_ixor {x y : Int32} (hc : dcode M = cc) (hd : decode cc pc = .ok (.ixor, 1)) : den M pc L (.int y :: .int x :: st) σ = den M (pc + 1) L (.int (x ^^^ y) :: st) σ := den_nx (by rw [dstep_eq hc hd rfl]; rfl)
theorem dn_ishl {x y : Int32} (hc : dcode M = cc) (hd : decode cc pc = .ok (.ishl, 1)) : den M pc L (.int y :: .int x :: st) σ = den M (pc + 1) L (.int (x <<< (y &&& 31)) :: st) σ := den_nx (by rw [dstep_eq hc hd rfl]; rfl)
theorem dn_ishr {x y : Int32} (hc : dcode M = cc) (hd : decode cc pc = .ok (.ishr, 1)) : den M pc L (.int y :: .int x :: st) σ = den M (pc + 1) L (.int (x >>> (y &&& 31)) :: st) σ := den_nx (by rw [dstep_eq hc hd rfl]; rfl)
theorem dn_ineg {x : Int32} (hc : dcode M = cc) (hd : decode cc pc = .ok (.ineg, 1)) : den M pc L (.int x :: st) σ = den M (pc + 1) L (.int (-x) :: st) σ := den_nx (by rw [dstep_eq hc hd rfl]; rfl)
theorem dn_i2l {x : Int32} (hc : dcode M = cc) (hd : decode cc pc = .ok (.i2l, 1)) : den M pc L (.int x :: st) σ = den M (pc + 1) L (.long x.toInt64 :: st) σ := den_nx (by rw [dstep_eq hc hd rfl]; rfl)
theorem dn_i2b {x : Int32} (hc : dcode M = cc) (hd : decode cc pc = .ok (.i2b, 1)) : den M pc L (.int x :: st) σ = den M (pc + 1) L (.int x.toInt8.toInt32 :: st) σ := den_nx (by rw [dstep_eq hc hd rfl]; rfl)
theorem dn_i2s {x : Int32} (hc : dcode M = cc) (hd : decode cc pc = .ok (.i2s, 1)) : den M pc L (.int x :: st) σ = den M (pc + 1) L (.int x.toInt16.toInt32 :: st) σ := den_nx (by rw [dstep_eq hc hd rfl]; rfl)
theorem dn_ladd {x y : Int64} (hc : dcode M = cc) (hd : decode cc pc = .ok (.ladd, 1)) : den M pc L (.long y :: .long x :: st) σ = den M (pc + 1) L (.long (x + y) :: st) σ := den_nx (by rw [dstep_eq hc hd rfl]; rfl)
theorem dn_lsub {x y : Int64} (hc : dcode M = cc) (hd : decode cc pc = .ok (.lsub, 1)) : den M pc L (.long y :: .long x :: st) σ = den M (pc + 1) L (.long (x - y) :: st) σ := den_nx (by rw [dstep_eq hc hd rfl]; rfl)
theorem dn_lmul {x y : Int64} (hc : dcode M = cc) (hd : decode cc pc = .ok (.lmul, 1)) : den M pc L (.long y :: .long x :: st) σ = den M (pc + 1) L (.long (x * y) :: st) σ := den_nx (by rw [dstep_eq hc hd rfl]; rfl)
theorem dn_lcmp {x y : Int64} (hc : dcode M = cc) (hd : decode cc pc = .ok (.lcmp, 1)) : den M pc L (.long y :: .long x :: st) σ = den M (pc + 1) L (.int (lg_cmp x y) :: st) σ := den_nx (by rw [dstep_eq hc hd rfl]; rfl)
theorem den_if {c : Prop} [Decidable c] {a : Option dO} {X : Option (Option Value × dS)} (h : dstep M pc L st σ = if c then none else a) (h2 : ¬ c → den M pc L st σ = X) : den M pc L st σ = if c then none else X := by
  by_cases hc : c
  · rw [if_pos hc] at h ⊢
    exact den_no h
  · rw [if_neg hc]
    exact h2 hc
theorem dn_idiv {x y : Int32} (hc : dcode M = cc) (hd : decode cc pc = .ok (.idiv, 1)) : den M pc L (.int y :: .int x :: st) σ = if y = 0 then none else den M (pc + 1) L (.int (x / y) :: st) σ := den_if (a := dnx (pc + 1) L (.int (x / y) :: st) σ) (by rw [dstep_eq hc hd rfl]; rfl) (fun h => den_nx (by rw [dstep_eq hc hd rfl]; exact if_neg h))
theorem dn_irem {x y : Int32} (hc : dcode M = cc) (hd : decode cc pc = .ok (.irem, 1)) : den M pc L (.int y :: .int x :: st) σ = if y = 0 then none else den M (pc + 1) L (.int (x - x / y * y) :: st) σ := den_if (a := dnx (pc + 1) L (.int (x - x / y * y) :: st) σ) (by rw [dstep_eq hc hd rfl]; rfl) (fun h => den_nx (by rw [dstep_eq hc hd rfl]; exact if_neg h))
theorem dn_ldiv {x y : Int64} (hc : dcode M = cc) (hd : decode cc pc = .ok (.ldiv, 1)) : den M pc L (.long y :: .long x :: st) σ = if y = 0 then none else den M (pc + 1) L (.long (x / y) :: st) σ := den_if (a := dnx (pc + 1) L (.long (x / y) :: st) σ) (by rw [dstep_eq hc hd rfl]; rfl) (fun h => den_nx (by rw [dstep_eq hc hd rfl]; exact if_neg h))
theorem dn_lrem {x y : Int64} (hc : dcode M = cc) (hd : decode cc pc = .ok (.lrem, 1)) : den M pc L (.long y :: .long x :: st) σ = if y = 0 then none else den M (pc + 1) L (.long (x - x / y * y) :: st) σ := den_if (a := dnx (pc + 1) L (.long (x - x / y * y) :: st) σ) (by rw [dstep_eq hc hd rfl]; rfl) (fun h => den_nx (by rw [dstep_eq hc hd rfl]; exact if_neg h))
theorem dn_dup {v : Value} (hc : dcode M = cc) (hd : decode cc pc = .ok (.dup, 1)) (h1 : v.category = 1) : den M pc L (v :: st) σ = den M (pc + 1) L (v :: v :: st) σ := den_nx (by rw [dstep_eq hc hd rfl]; exact if_pos h1)
theorem dn_dup2 {v w : Value} (hc : dcode M = cc) (hd : decode cc pc = .ok (.dup2, 1)) (h1 : v.category = 1) (h2 : w.category = 1) : den M pc L (v :: w :: st) σ = den M (pc + 1) L (v :: w :: v :: w :: st) σ := den_nx (by rw [dstep_eq hc hd rfl]; exact if_pos ⟨h1, h2⟩)
theorem dn_pop {v : Value} (hc : dcode M = cc) (hd : decode cc pc = .ok (.pop, 1)) (h1 : v.category = 1) : den M pc L (v :: st) σ = den M (pc + 1) L st σ := den_nx (by rw [dstep_eq hc hd rfl]; exact if_pos h1)
theorem djump_eq {off : Int} {tgt : Nat} (ht : (pc : Int) + off = (tgt : Int)) : djump pc off L st σ = some (.inl (tgt, L, st, σ)) := by
  unfold djump
  rw [ht, if_pos (Int.natCast_nonneg tgt), Int.toNat_natCast]
theorem dn_goto {off : Int} {tgt : Nat} (hc : dcode M = cc) (hd : decode cc pc = .ok (.goto off, 3)) (ht : (pc : Int) + off = (tgt : Int)) : den M pc L st σ = den M tgt L st σ := den_nx (by rw [dstep_eq hc hd rfl]; exact djump_eq ht)
theorem dbr_eq {b : Bool} {off : Int} {tgt : Nat} (ht : (pc : Int) + off = (tgt : Int)) : dbr b pc off L st σ = some (.inl (if b = true then tgt else pc + 3, L, st, σ)) := by
  unfold dbr
  rw [ht, if_pos (Int.natCast_nonneg tgt), Int.toNat_natCast]
  rfl
theorem dn_br {P : Prop} [Decidable P] {b : Bool} {st0 : List Value} {off : Int} {tgt : Nat} (h : dstep M pc L st0 σ = dbr b pc off L st σ) (hb : b = decide P) (ht : (pc : Int) + off = (tgt : Int)) : den M pc L st0 σ = if P then den M tgt L st σ else den M (pc + 3) L st σ := by
  rw [dbr_eq ht] at h
  rw [den_nx h, hb]
  by_cases hP : P
  · rw [if_pos hP, if_pos (decide_eq_true hP)]
  · rw [if_neg hP, if_neg (by simp [hP])]
theorem dn_if_eq {x : Int32} {off : Int} {tgt : Nat} (hc : dcode M = cc) (hd : decode cc pc = .ok (.ifCond .eq off, 3)) (ht : (pc : Int) + off = (tgt : Int)) : den M pc L (.int x :: st) σ = if x = 0 then den M tgt L st σ else den M (pc + 3) L st σ := dn_br (b := decide (x = 0)) (by rw [dstep_eq hc hd rfl]; rfl) rfl ht
theorem dn_if_ne {x : Int32} {off : Int} {tgt : Nat} (hc : dcode M = cc) (hd : decode cc pc = .ok (.ifCond .ne off, 3)) (ht : (pc : Int) + off = (tgt : Int)) : den M pc L (.int x :: st) σ = if x = 0 then den M (pc + 3) L st σ else den M tgt L st σ := by
  rw [dn_br (P := ¬ x = 0) (b := decide (¬ x = 0)) (by rw [dstep_eq hc hd rfl]; rfl) rfl ht]
  by_cases h : x = 0 <;> simp [h]
theorem dn_if_lt {x : Int32} {off : Int} {tgt : Nat} (hc : dcode M = cc) (hd : decode cc pc = .ok (.ifCond .lt off, 3)) (ht : (pc : Int) + off = (tgt : Int)) : den M pc L (.int x :: st) σ = if x < 0 then den M tgt L st σ else den M (pc + 3) L st σ := dn_br (b := decide (x < 0)) (by rw [dstep_eq hc hd rfl]; rfl) rfl ht
theorem dn_if_ge {x : Int32} {off : Int} {tgt : Nat} (hc : dcode M = cc) (hd : decode cc pc = .ok (.ifCond .ge off, 3)) (ht : (pc : Int) + off = (tgt : Int)) : den M pc L (.int x :: st) σ = if x < 0 then den M (pc + 3) L st σ else den M tgt L st σ := by
  rw [dn_br (P := 0 ≤ x) (b := decide (0 ≤ x)) (by rw [dstep_eq hc hd rfl]; rfl) rfl ht]
  by_cases h : x < 0
  · rw [if_neg (Int32.not_le.mpr h), if_pos h]
  · rw [if_pos (Int32.not_lt.mp h), if_neg h]
theorem dn_if_gt {x : Int32} {off : Int} {tgt : Nat} (hc : dcode M = cc) (hd : decode cc pc = .ok (.ifCond .gt off, 3)) (ht : (pc : Int) + off = (tgt : Int)) : den M pc L (.int x :: st) σ = if 0 < x then den M tgt L st σ else den M (pc + 3) L st σ := dn_br (b := decide (0 < x)) (by rw [dstep_eq hc hd rfl]; rfl) rfl ht
theorem dn_if_le {x : Int32} {off : Int} {tgt : Nat} (hc : dcode M = cc) (hd : decode cc pc = .ok (.ifCond .le off, 3)) (ht : (pc : Int) + off = (tgt : Int)) : den M pc L (.int x :: st) σ = if 0 < x then den M (pc + 3) L st σ else den M tgt L st σ := by
  rw [dn_br (P := x ≤ 0) (b := decide (x ≤ 0)) (by rw [dstep_eq hc hd rfl]; rfl) rfl ht]
  by_cases h : 0 < x
  · rw [if_neg (Int32.not_le.mpr h), if_pos h]
  · rw [if_pos (Int32.not_lt.mp h), if_neg h]
theorem dn_icmp_eq {x y : Int32} {off : Int} {tgt : Nat} (hc : dcode M = cc) (hd : decode cc pc = .ok (.if_icmp .eq off, 3)) (ht : (pc : Int) + off = (tgt : Int)) : den M pc L (.int y :: .int x :: st) σ = if x = y then den M tgt L st σ else den M (pc + 3) L st σ := dn_br (b := decide (x = y)) (by rw [dstep_eq hc hd rfl]; rfl) rfl ht
theorem dn_icmp_ne {x y : Int32} {off : Int} {tgt : Nat} (hc : dcode M = cc) (hd : decode cc pc = .ok (.if_icmp .ne off, 3)) (ht : (pc : Int) + off = (tgt : Int)) : den M pc L (.int y :: .int x :: st) σ = if x = y then den M (pc + 3) L st σ else den M tgt L st σ := by
  rw [dn_br (P := ¬ x = y) (b := decide (¬ x = y)) (by rw [dstep_eq hc hd rfl]; rfl) rfl ht]
  by_cases h : x = y <;> simp [h]
theorem dn_icmp_lt {x y : Int32} {off : Int} {tgt : Nat} (hc : dcode M = cc) (hd : decode cc pc = .ok (.if_icmp .lt off, 3)) (ht : (pc : Int) + off = (tgt : Int)) : den M pc L (.int y :: .int x :: st) σ = if x < y then den M tgt L st σ else den M (pc + 3) L st σ := dn_br (b := decide (x < y)) (by rw [dstep_eq hc hd rfl]; rfl) rfl ht
theorem dn_icmp_ge {x y : Int32} {off : Int} {tgt : Nat} (hc : dcode M = cc) (hd : decode cc pc = .ok (.if_icmp .ge off, 3)) (ht : (pc : Int) + off = (tgt : Int)) : den M pc L (.int y :: .int x :: st) σ = if x < y then den M (pc + 3) L st σ else den M tgt L st σ := by
  rw [dn_br (P := y ≤ x) (b := decide (y ≤ x)) (by rw [dstep_eq hc hd rfl]; rfl) rfl ht]
  by_cases h : x < y
  · rw [if_neg (Int32.not_le.mpr h), if_pos h]
  · rw [if_pos (Int32.not_lt.mp h), if_neg h]
theorem dn_icmp_gt {x y : Int32} {off : Int} {tgt : Nat} (hc : dcode M = cc) (hd : decode cc pc = .ok (.if_icmp .gt off, 3)) (ht : (pc : Int) + off = (tgt : Int)) : den M pc L (.int y :: .int x :: st) σ = if y < x then den M tgt L st σ else den M (pc + 3) L st σ := dn_br (b := decide (y < x)) (by rw [dstep_eq hc hd rfl]; rfl) rfl ht
theorem dn_icmp_le {x y : Int32} {off : Int} {tgt : Nat} (hc : dcode M = cc) (hd : decode cc pc = .ok (.if_icmp .le off, 3)) (ht : (pc : Int) + off = (tgt : Int)) : den M pc L (.int y :: .int x :: st) σ = if y < x then den M (pc + 3) L st σ else den M tgt L st σ := by
  rw [dn_br (P := x ≤ y) (b := decide (x ≤ y)) (by rw [dstep_eq hc hd rfl]; rfl) rfl ht]
  by_cases h : y < x
  · rw [if_neg (Int32.not_le.mpr h), if_pos h]
  · rw [if_pos (Int32.not_lt.mp h), if_neg h]
theorem dn_swOut {d lo hi : Int} {offs : Array Int} {n : Nat} {x : Int32} {tgt : Nat} (hc : dcode M = cc) (hd : decode cc pc = .ok (.tableswitch d lo hi offs, n)) (ht : (pc : Int) + d = (tgt : Int)) (h : x.toInt < lo ∨ hi < x.toInt) : den M pc L (.int x :: st) σ = den M tgt L st σ := den_nx (by rw [dstep_eq hc hd rfl]; simp only [dexec, dpi, Option.bind_some]; rw [if_pos h]; exact djump_eq ht)
theorem dn_swIn {d lo hi : Int} {offs : Array Int} {n : Nat} {x : Int32} {off : Int} {tgt : Nat} (hc : dcode M = cc) (hd : decode cc pc = .ok (.tableswitch d lo hi offs, n)) (h1 : ¬ (x.toInt < lo ∨ hi < x.toInt)) (ho : offs[(x.toInt - lo).toNat]? = some off) (ht : (pc : Int) + off = (tgt : Int)) : den M pc L (.int x :: st) σ = den M tgt L st σ := den_nx (by rw [dstep_eq hc hd rfl]; simp only [dexec, dpi, Option.bind_some]; rw [if_neg h1, ho]; exact djump_eq ht)
theorem den_bd {α : Type} {o : Option α} {f : α → Option dO} {g : α → Option (Option Value × dS)} (h : dstep M pc L st σ = o.bind f) (h2 : ∀ a, o = some a → den M pc L st σ = g a) : den M pc L st σ = o.bind g := by
  cases o with
  | none => exact den_no h
  | some a => exact h2 a rfl
theorem dn_getfield {k q : Nat} {f : Nat × Nat × Nat} (hc : dcode M = cc) (hd : decode cc pc = .ok (.getfield k, 3)) (hf : dfld (down M) k = some f) : den M pc L (.ref q :: st) σ = (dget σ q f.1 f.2.1).bind fun v => den M (pc + 3) L (v :: st) σ := by
  have h : dstep M pc L (.ref q :: st) σ = (dget σ q f.1 f.2.1).bind fun v => dnx (pc + 3) L (v :: st) σ := by rw [dstep_eq hc hd rfl]; simp only [dexec, hf, Option.bind_some, dpr]
  exact den_bd h fun a ha => den_nx (by rw [h, ha]; rfl)
theorem dn_putfield {k q : Nat} {f : Nat × Nat × Nat} {ty : FieldType} {v : Value} (hc : dcode M = cc) (hd : decode cc pc = .ok (.putfield k, 3)) (hf : dfld (down M) k = some f) (hty : dfty f.1 f.2.1 = some ty) (hfit : dfit ty v = true) : den M pc L (v :: .ref q :: st) σ = (dput σ q f.1 f.2.1 v).bind fun σ' => den M (pc + 3) L st σ' := by
  have h : dstep M pc L (v :: .ref q :: st) σ = (dput σ q f.1 f.2.1 v).bind fun σ' => dnx (pc + 3) L st σ' := by
    rw [dstep_eq hc hd rfl]
    simp only [dexec, hf, Option.bind_some, dpr, hty]
    exact if_pos hfit
  exact den_bd h fun a ha => den_nx (by rw [h, ha]; rfl)
theorem dn_putfieldZ {k q : Nat} {f : Nat × Nat × Nat} {x : Int32} (hc : dcode M = cc) (hd : decode cc pc = .ok (.putfield k, 3)) (hf : dfld (down M) k = some f) (hty : dfty f.1 f.2.1 = some .boolean) : den M pc L (.int x :: .ref q :: st) σ = if x = 0 ∨ x = 1 then (dput σ q f.1 f.2.1 (.int x)).bind (fun σ' => den M (pc + 3) L st σ') else none := by
  by_cases hx : x = 0 ∨ x = 1
  · rw [if_pos hx]
    exact dn_putfield hc hd hf hty (by simpa [dfit] using hx)
  · rw [if_neg hx]
    refine den_no ?_
    rw [dstep_eq hc hd rfl]
    simp only [dexec, hf, Option.bind_some, dpr, hty]
    exact if_neg (by simpa [dfit] using hx)
theorem dn_iaload {q : Nat} {i : Int32} (hc : dcode M = cc) (hd : decode cc pc = .ok (.iaload, 1)) : den M pc L (.int i :: .ref q :: st) σ = if q ≤ dN then (dald σ q 0 i).bind (fun x => den M (pc + 1) L (.int x :: st) σ) else none := by
  by_cases hq : q ≤ dN
  · rw [if_pos hq]
    have h : dstep M pc L (.int i :: .ref q :: st) σ = (dald σ q 0 i).bind fun x => dnx (pc + 1) L (.int x :: st) σ := by
      rw [dstep_eq hc hd rfl]
      simp only [dexec, dpi, dpr, Option.bind_some]
      exact if_pos hq
    exact den_bd h fun a ha => den_nx (by rw [h, ha]; rfl)
  · rw [if_neg hq]
    refine den_no ?_
    rw [dstep_eq hc hd rfl]
    simp only [dexec, dpi, dpr, Option.bind_some]
    exact if_neg hq
theorem dn_iastore {q : Nat} {i x : Int32} (hc : dcode M = cc) (hd : decode cc pc = .ok (.iastore, 1)) : den M pc L (.int x :: .int i :: .ref q :: st) σ = (dast σ q 0 i x).bind fun σ' => den M (pc + 1) L st σ' := by
  have h : dstep M pc L (.int x :: .int i :: .ref q :: st) σ = (dast σ q 0 i x).bind fun σ' => dnx (pc + 1) L st σ' := by rw [dstep_eq hc hd rfl]; simp only [dexec, dp2, dpi, dpr, Option.bind_some]
  exact den_bd h fun a ha => den_nx (by rw [h, ha]; rfl)
theorem dn_baload {q : Nat} {i : Int32} (hc : dcode M = cc) (hd : decode cc pc = .ok (.baload, 1)) : den M pc L (.int i :: .ref q :: st) σ = (dbld σ q i).bind fun x => den M (pc + 1) L (.int x :: st) σ := by
  have h : dstep M pc L (.int i :: .ref q :: st) σ = (dbld σ q i).bind fun x => dnx (pc + 1) L (.int x :: st) σ := by rw [dstep_eq hc hd rfl]; simp only [dexec, dpi, dpr, Option.bind_some]
  exact den_bd h fun a ha => den_nx (by rw [h, ha]; rfl)
theorem dn_bastore {q : Nat} {i x : Int32} (hc : dcode M = cc) (hd : decode cc pc = .ok (.bastore, 1)) : den M pc L (.int x :: .int i :: .ref q :: st) σ = (dbst σ q i x).bind fun σ' => den M (pc + 1) L st σ' := by
  have h : dstep M pc L (.int x :: .int i :: .ref q :: st) σ = (dbst σ q i x).bind fun σ' => dnx (pc + 1) L st σ' := by rw [dstep_eq hc hd rfl]; simp only [dexec, dp2, dpi, dpr, Option.bind_some]
  exact den_bd h fun a ha => den_nx (by rw [h, ha]; rfl)
theorem dn_laload {q : Nat} {i : Int32} (hc : dcode M = cc) (hd : decode cc pc = .ok (.laload, 1)) : den M pc L (.int i :: .ref q :: st) σ = (dlld σ q i).bind fun x => den M (pc + 1) L (.long x :: st) σ := by
  have h : dstep M pc L (.int i :: .ref q :: st) σ = (dlld σ q i).bind fun x => dnx (pc + 1) L (.long x :: st) σ := by rw [dstep_eq hc hd rfl]; simp only [dexec, dpi, dpr, Option.bind_some]
  exact den_bd h fun a ha => den_nx (by rw [h, ha]; rfl)
theorem dn_lastore {q : Nat} {i : Int32} {x : Int64} (hc : dcode M = cc) (hd : decode cc pc = .ok (.lastore, 1)) : den M pc L (.long x :: .int i :: .ref q :: st) σ = (dlst σ q i x).bind fun σ' => den M (pc + 1) L st σ' := by
  have h : dstep M pc L (.long x :: .int i :: .ref q :: st) σ = (dlst σ q i x).bind fun σ' => dnx (pc + 1) L st σ' := by rw [dstep_eq hc hd rfl]; simp only [dexec, dpl, dpi, dpr, Option.bind_some]
  exact den_bd h fun a ha => den_nx (by rw [h, ha]; rfl)
theorem dn_aaload {q : Nat} {i : Int32} (hc : dcode M = cc) (hd : decode cc pc = .ok (.aaload, 1)) : den M pc L (.int i :: .ref q :: st) σ = (drld σ q i).bind fun x => den M (pc + 1) L (x :: st) σ := by
  have h : dstep M pc L (.int i :: .ref q :: st) σ = (drld σ q i).bind fun x => dnx (pc + 1) L (x :: st) σ := by rw [dstep_eq hc hd rfl]; simp only [dexec, dpi, dpr, Option.bind_some]
  exact den_bd h fun a ha => den_nx (by rw [h, ha]; rfl)
theorem dn_arraylength {q : Nat} (hc : dcode M = cc) (hd : decode cc pc = .ok (.arraylength, 1)) : den M pc L (.ref q :: st) σ = (dalen σ q).bind fun x => den M (pc + 1) L (.int x :: st) σ := by
  have h : dstep M pc L (.ref q :: st) σ = (dalen σ q).bind fun x => dnx (pc + 1) L (.int x :: st) σ := by rw [dstep_eq hc hd rfl]; simp only [dexec, dpr, Option.bind_some]
  exact den_bd h fun a ha => den_nx (by rw [h, ha]; rfl)
theorem dcl_eq {M1 : Nat} {as rest : List Value} (h1 : dcok M M1 = true) (h2 : as.length = dnar M1) (h3 : dcat rest ≤ 8) (h4 : (dargs as).length ≤ dmaxL M1) : dcl M pc M1 L (as.reverse ++ rest) = some (.inr (.inr (M1, as, pc + 3, L, rest))) := by
  have e1 : (as.reverse ++ rest).take (dnar M1) = as.reverse := List.take_left' (by simp [h2])
  have e2 : (as.reverse ++ rest).drop (dnar M1) = rest := List.drop_left' (by simp [h2])
  unfold dcl
  rw [e1, e2, List.reverse_reverse, if_pos ⟨h1, by simp [h2], h3, h4⟩]
theorem dn_callV {k q : Nat} {e : Nat × Nat × Nat} {as rest : List Value} (hc : dcode M = cc) (hd : decode cc pc = .ok (.invokevirtual k, 3)) (hl : dlink (down M) k = some e) (h0 : e.1 = 0) (h1 : dcok M e.2.1 = true) (h2 : as.length + 1 = dnar e.2.1) (h3 : dcat rest ≤ 8) (h4 : (dargs (.ref q :: as)).length ≤ dmaxL e.2.1) (hs : st = as.reverse ++ .ref q :: rest) (hO : disO σ q (dci e.2.1) = true) : den M pc L st σ = (dcall e.2.1 (.ref q :: as) σ).bind fun r => den M (pc + 3) L (r.1.toList ++ rest) r.2 := by
  refine den_cl ?_
  rw [dstep_eq hc hd rfl, hs]
  have er : drecv (as.reverse ++ .ref q :: rest) (dnar e.2.1) = some q := by
    unfold drecv
    rw [← h2, show as.length + 1 - 1 = as.reverse.length by simp, List.getElem?_append_right (Nat.le_refl _), Nat.sub_self]
    rfl
  simp only [dexec, hl, Option.bind_some, h0, er, hO, if_true]
  have := dcl_eq (M := M) (pc := pc) (L := L) (as := .ref q :: as) (rest := rest) h1 (by simpa using h2) h3 h4
  simpa using this
theorem dn_callP {k q : Nat} {e : Nat × Nat × Nat} {as rest : List Value} (hc : dcode M = cc) (hd : decode cc pc = .ok (.invokevirtual k, 3)) (hl : dlink (down M) k = some e) (h0 : e.1 = 3) (h1 : dcok M e.2.1 = true) (h2 : as.length + 1 = dnar e.2.1) (h3 : dcat rest ≤ 8) (h4 : (dargs (.ref q :: as)).length ≤ dmaxL e.2.1) (hs : st = as.reverse ++ .ref q :: rest) (hO : dN + 1 ≤ q ∧ q < dN + 7) : den M pc L st σ = (dcall e.2.1 (.ref q :: as) σ).bind fun r => den M (pc + 3) L (r.1.toList ++ rest) r.2 := by
  refine den_cl ?_
  rw [dstep_eq hc hd rfl, hs]
  have er : drecv (as.reverse ++ .ref q :: rest) (dnar e.2.1) = some q := by
    unfold drecv
    rw [← h2, show as.length + 1 - 1 = as.reverse.length by simp, List.getElem?_append_right (Nat.le_refl _), Nat.sub_self]
    rfl
  simp only [dexec, hl, Option.bind_some, h0, er, hO, if_true]
  have := dcl_eq (M := M) (pc := pc) (L := L) (as := .ref q :: as) (rest := rest) h1 (by simpa using h2) h3 h4
  simpa using this
theorem dn_callS {k : Nat} {e : Nat × Nat × Nat} {as rest : List Value} (hc : dcode M = cc) (hd : decode cc pc = .ok (.invokestatic k, 3)) (hl : dlink (down M) k = some e) (h0 : e.1 = 1 ∨ e.1 = 2) (h1 : dcok M e.2.1 = true) (h2 : as.length = dnar e.2.1) (h3 : dcat rest ≤ 8) (h4 : (dargs as).length ≤ dmaxL e.2.1) (hs : st = as.reverse ++ rest) : den M pc L st σ = (dcall e.2.1 as σ).bind fun r => den M (pc + 3) L (r.1.toList ++ rest) r.2 := by
  refine den_cl ?_
  rw [dstep_eq hc hd rfl, hs]
  simp only [dexec, hl, Option.bind_some]
  rw [if_pos h0]
  exact dcl_eq (M := M) (pc := pc) (L := L) h1 h2 h3 h4
theorem dn_copy {k q0 q1 : Nat} {e : Nat × Nat × Nat} {sp dp n : Int32} (hc : dcode M = cc) (hd : decode cc pc = .ok (.invokestatic k, 3)) (hl : dlink (down M) k = some e) (h0 : e.1 = 4) (h1 : 1 ≤ dfrm M) (h2 : dcat st + (7 + 11) ≤ dlcl M) : den M pc L (.int n :: .int dp :: .ref q1 :: .int sp :: .ref q0 :: st) σ = (dcopy σ q0 sp q1 dp n).bind fun σ' => den M (pc + 3) L st σ' := by
  have h : dstep M pc L (.int n :: .int dp :: .ref q1 :: .int sp :: .ref q0 :: st) σ = (dcopy σ q0 sp q1 dp n).bind fun σ' => dnx (pc + 3) L st σ' := by
    rw [dstep_eq hc hd rfl]
    simp only [dexec, hl, Option.bind_some, h0, dp2, dpi, dpr]
    rw [if_neg (by decide), if_pos trivial, if_pos ⟨h1, h2⟩]
  exact den_bd h fun a ha => den_nx (by rw [h, ha]; rfl)
theorem dn_max {k : Nat} {e : Nat × Nat × Nat} {x y : Int32} (hc : dcode M = cc) (hd : decode cc pc = .ok (.invokestatic k, 3)) (hl : dlink (down M) k = some e) (h0 : e.1 = 5) (h1 : 1 ≤ dfrm M) (h2 : dcat st + 13 ≤ dlcl M) : den M pc L (.int y :: .int x :: st) σ = den M (pc + 3) L (.int (if x < y then y else x) :: st) σ := den_nx (by
    rw [dstep_eq hc hd rfl]
    simp only [dexec, hl, Option.bind_some, h0, dp2, dpi]
    rw [if_neg (by decide), if_neg (by decide), if_pos trivial, if_pos ⟨h1, h2⟩]
    rfl)
theorem dn_ireturn {v : Int32} (hc : dcode M = cc) (hd : decode cc pc = .ok (.ireturn, 1)) (hr : dret M = some .int) : den M pc L [.int v] σ = some (some (.int v), σ) := den_ret (by rw [dstep_eq hc hd rfl]; simp only [dexec, dretv, hr])
theorem dn_zreturn {v : Int32} (hc : dcode M = cc) (hd : decode cc pc = .ok (.ireturn, 1)) (hr : dret M = some .boolean) : den M pc L [.int v] σ = if v = 0 ∨ v = 1 then some (some (.int v), σ) else none := by
  by_cases h : v = 0 ∨ v = 1
  · rw [if_pos h]
    exact den_ret (by rw [dstep_eq hc hd rfl]; simp only [dexec, dretv, hr]; exact if_pos h)
  · rw [if_neg h]
    exact den_no (by rw [dstep_eq hc hd rfl]; simp only [dexec, dretv, hr]; exact if_neg h)
theorem dn_lreturn {v : Int64} (hc : dcode M = cc) (hd : decode cc pc = .ok (.lreturn, 1)) (hr : dret M = some .long) : den M pc L [.long v] σ = some (some (.long v), σ) := den_ret (by rw [dstep_eq hc hd rfl]; simp only [dexec, dretv, hr])
theorem dn_areturn {q : Nat} {C : String} (hc : dcode M = cc) (hd : decode cc pc = .ok (.areturn, 1)) (hr : dret M = some (.object C)) : den M pc L [.ref q] σ = some (some (.ref q), σ) := den_ret (by rw [dstep_eq hc hd rfl]; simp only [dexec, dretv, hr])
theorem dn_return {σ : dS} (hc : dcode M = cc) (hd : decode cc pc = .ok (.return_, 1)) (hr : dret M = none) : den M pc L [] σ = some (none, σ) := den_ret (by rw [dstep_eq hc hd rfl]; simp only [dexec, hr])
end DEN

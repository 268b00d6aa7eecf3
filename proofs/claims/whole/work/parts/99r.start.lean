/-! what the Statement gives of the start, in the deep machine's words -/
theorem st_arr {args : Array Value} {s : State} {ty : FieldType} (h : (Cond.arrayClass ty).before args s = true) : ∃ cA : ClassId, ArrOfT s cA ty ∧ s.vm.findClass ("[" ++ ty.toString) = some cA := by
  obtain ⟨cA, kA, comp, hfind, hk, hkind⟩ := Cond.arrayClass_spec h
  exact ⟨cA, fun n z => ⟨fun k h => (by cases h), kA, hk, comp, hkind⟩, hfind⟩
theorem st_arrO {s : State} {C : String} (h : va_AO C s) : ∃ cA : ClassId, ArrOfT s cA (.object C) ∧ va_RA s cA (.object C) := by
  obtain ⟨comp, c, k, h1, h2, h3, h4, h5⟩ := Cond.arrayOver_spec h
  exact ⟨c, fun N z => ⟨fun k h => (by cases h), k, h3, comp, h4⟩, k, comp, h3, h4, h1, h5⟩
def st_7 {α : Type} (c0 c1 c2 c3 c4 c5 c6 : α) : Nat → α
  | 0 => c0
  | 1 => c1
  | 2 => c2
  | 3 => c3
  | 4 => c4
  | 5 => c5
  | _ => c6
set_option maxRecDepth 100000 in
theorem st_K {args : Array Value} {s : State} (hts : ∀ w ∈ lw_tbl, w.before args s = true) : ∃ (D : va_G) (tyC : Nat → ClassId), va_K D vwCl (dtys tyC) s := by
  have hd : ∀ w ∈ dgw, w.before args s = true := fun w hw => hts w (List.mem_filter.mp hw).1
  obtain ⟨c0, i0, k0⟩ := u_known (C := RX0) (T := TX0) (N := 4) (n := 4) hd (dlay_in (ci := 0) rfl) (hts (.instantiable RX0 4) (by decide +kernel))
  obtain ⟨c1, i1, k1⟩ := u_known (C := RX2) (T := TX2) (N := 6) (n := 6) hd (dlay_in (ci := 1) rfl) (hts (.instantiable RX2 6) (by decide +kernel))
  obtain ⟨c2, i2, k2⟩ := u_known (C := RX3) (T := TX3) (N := 10) (n := 10) hd (dlay_in (ci := 2) rfl) (hts (.instantiable RX3 10) (by decide +kernel))
  obtain ⟨c3, i3, k3⟩ := u_known (C := RX4) (T := TX4) (N := 3) (n := 3) hd (dlay_in (ci := 3) rfl) (hts (.instantiable RX4 3) (by decide +kernel))
  obtain ⟨c4, i4, k4⟩ := u_known (C := RX5) (T := TX5) (N := 10) (n := 10) hd (dlay_in (ci := 4) rfl) (hts (.instantiable RX5 10) (by decide +kernel))
  obtain ⟨c5, i5, k5⟩ := u_known (C := RX6) (T := TX6) (N := 10) (n := 10) hd (dlay_in (ci := 5) rfl) (hts (.instantiable RX6 10) (by decide +kernel))
  obtain ⟨c6, i6, k6⟩ := u_known (C := RX7) (T := TX7) (N := 34) (n := 34) hd (dlay_in (ci := 6) rfl) (hts (.instantiable RX7 34) (by decide +kernel))
  obtain ⟨t0, a0, b0⟩ := st_arr (hts (.arrayClass .int) (by decide +kernel))
  obtain ⟨t1, a1, b1⟩ := st_arr (hts (.arrayClass .byte) (by decide +kernel))
  obtain ⟨t2, a2, b2⟩ := st_arr (hts (.arrayClass .boolean) (by decide +kernel))
  obtain ⟨t3, a3, b3⟩ := st_arr (hts (.arrayClass .long) (by decide +kernel))
  obtain ⟨t4, a4, b4⟩ := st_arrO (C := RX3) (va_AO.of (hts (.arrayOver (.object RX3)) (by decide +kernel)))
  obtain ⟨t5, a5, b5⟩ := st_arrO (C := RX4) (va_AO.of (hts (.arrayOver (.object RX4)) (by decide +kernel)))
  refine ⟨(st_7 c0 c1 c2 c3 c4 c5 c6, st_7 i0 i1 i2 i3 i4 i5 i6), st_7 t0 t1 t2 t3 t4 t5 t5, ?_, ?_⟩
  · intro k q hq
    match k, hq with
    | 0, hq => cases hq; exact k0
    | 1, hq => cases hq; exact k1
    | 2, hq => cases hq; exact k2
    | 3, hq => cases hq; exact k3
    | 4, hq => cases hq; exact k4
    | 5, hq => cases hq; exact k5
    | 6, hq => cases hq; exact k6
    | k + 7, hq => exact absurd hq (by simp [vwCl])
  · intro k q hq
    match k, hq with
    | 0, hq => cases hq; exact ⟨a0, b0⟩
    | 1, hq => cases hq; exact ⟨a1, b1⟩
    | 2, hq => cases hq; exact ⟨a2, b2⟩
    | 3, hq => cases hq; exact ⟨a3, b3⟩
    | 4, hq => cases hq; exact ⟨a4, b4⟩
    | 5, hq => cases hq; exact ⟨a5, b5⟩
    | k + 6, hq => exact absurd hq (by simp [dtys])
def st_tm (i : Nat) : Term := .string RX5 ([86, 92, 94, 96, 98, 100].getD i 0)
def st_wl : List Cond := flatC (Jvm.Cond.and given_1 narrow_1)
set_option maxRecDepth 100000 in
theorem st_w1 : ∀ i, i < 6 → Cond.exactly (st_tm i) "java/lang/String" ∈ st_wl := by decide +kernel
set_option maxRecDepth 100000 in
theorem st_w2 : ∀ i, i < 6 → Cond.eq (.field (st_tm i) "java/lang/String" "coder" "B") (.int 0) ∈ st_wl := by decide +kernel
set_option maxRecDepth 100000 in
theorem st_w3 : ∀ i, i < 6 → Cond.arrayOf (.field (st_tm i) "java/lang/String" "value" "[B") .byte ∈ st_wl := by decide +kernel
set_option maxRecDepth 100000 in
theorem st_w4 : ∀ i, i < 6 → Cond.eq (.length (.field (st_tm i) "java/lang/String" "value" "[B")) (.int (Int32.ofNat (dslen.getD i 0))) ∈ st_wl := by decide +kernel
set_option maxRecDepth 100000 in
theorem st_w5 : ∀ i, i < 6 → ∀ j, j < dslen.getD i 0 → Cond.eq (.elem (.field (st_tm i) "java/lang/String" "value" "[B") (.int (Int32.ofNat j))) (.int ((dstr.getD i []).getD j 0)) ∈ st_wl := by decide +kernel
set_option maxRecDepth 100000 in
theorem st_w6 : ∀ i, i < 6 → ∀ j, j < 6 → i ≠ j → Cond.not (Cond.eq (st_tm i) (st_tm j)) ∈ st_wl ∨ Cond.not (Cond.eq (st_tm j) (st_tm i)) ∈ st_wl := by decide +kernel
theorem st_w7 : ∀ i, i < 6 → dslen.getD i 0 < 2 ^ 31 := by decide
theorem st_str {args : Array Value} {s : State} {A : Nat → Prop} (hgv : (Jvm.Cond.and given_1 narrow_1).before args s = true) (hA : ∀ a : Nat, a < s.heap.size → ¬ A a) : ∃ adK adV : Nat → Nat, vk_S 6 dslen dstr adK adV A s s.heap ∧ ∀ i : Nat, i < 6 → (st_tm i).eval args s none [] s = some (.ref (adK i)) := by
  have hq : ∀ w ∈ st_wl, w.before args s = true := flat_of_before _ hgv
  exact vk_Sof (tm := st_tm) st_w7 (fun i hi => hq _ (st_w1 i hi)) (fun i hi => hq _ (st_w2 i hi)) (fun i hi => hq _ (st_w3 i hi)) (fun i hi => hq _ (st_w4 i hi)) (fun i hi j hj => hq _ (st_w5 i hi j hj)) (fun i j hi hj hne => (st_w6 i hi j hj hne).elim (fun h => Or.inl (hq _ h)) (fun h => Or.inr (hq _ h))) hA
set_option maxRecDepth 100000 in
theorem st_R {args : Array Value} {s : State} {adK : Nat → Nat} (hts : ∀ w ∈ lw_tbl, w.before args s = true) (he : ∀ i : Nat, i < 6 → (st_tm i).eval args s none [] s = some (.ref (adK i))) : ∀ (j c i : Nat) (t : String), dsrT[j]? = some (c, i, t) → vk_R (dcn c) i t (adK j) s := by
  intro j c i t h
  match j, h with
  | 0, h => cases h; exact vk_R.of (hts (.stringRef RX5 86 "put") (by decide +kernel)) (he 0 (by decide))
  | 1, h => cases h; exact vk_R.of (hts (.stringRef RX5 92 "add") (by decide +kernel)) (he 1 (by decide))
  | 2, h => cases h; exact vk_R.of (hts (.stringRef RX5 94 "sub") (by decide +kernel)) (he 2 (by decide))
  | 3, h => cases h; exact vk_R.of (hts (.stringRef RX5 96 "mul") (by decide +kernel)) (he 3 (by decide))
  | 4, h => cases h; exact vk_R.of (hts (.stringRef RX5 98 "div") (by decide +kernel)) (he 4 (by decide))
  | 5, h => cases h; exact vk_R.of (hts (.stringRef RX5 100 "if") (by decide +kernel)) (he 5 (by decide))
  | j + 6, h => exact absurd h (by simp [dsrT])
set_option maxRecDepth 100000 in
theorem st_X {args : Array Value} {s : State} {b L : Nat} {xs : Nat → Int32} (hts : ∀ w ∈ lw_tbl, w.before args s = true) (hgv : (Jvm.Cond.and given_1 narrow_1).before args s = true) (hX : va_X b L xs s s.heap) (hbl : b < s.heap.size) : ∃ adK adV : Nat → Nat, ∀ g : Nat → Nat, g dN = b → (∀ j, g (dN + 1 + j) = adK j) → dXt g adV L xs (fun q => s.heap.size ≤ q) s s.heap := by
  have hA : ∀ a : Nat, a < s.heap.size → ¬ s.heap.size ≤ a := fun a h => Nat.not_le.mpr h
  have hq : ∀ w ∈ st_wl, w.before args s = true := flat_of_before _ hgv
  obtain ⟨adK, adV, hS, he⟩ := st_str (A := fun q => s.heap.size ≤ q) hgv hA
  refine ⟨adK, adV, fun g h1 h2 => ?_⟩
  have e1 : (fun j => g (dN + 1 + j)) = adK := funext h2
  unfold dXt
  rw [e1, h1]
  refine ⟨⟨hX, hbl, hA b hbl⟩, fun q hq => ?_, ⟨hS, fun j c i t hj => by rw [h2 j]; exact st_R hts he j c i t hj⟩, ?_, ?_⟩
  · simp only [dnest, List.mem_cons, List.not_mem_nil, or_false] at hq
    rcases hq with rfl | rfl
    · exact va_Nw.of rfl (hts (.methodLinkNest RX0 74 (dy 9) "GuardedCode") (by decide +kernel))
    · exact va_Nw.of rfl (hts (.methodLinkNest RX3 73 (dy 9) "GuardedCode") (by decide +kernel))
  · exact va_Zof (hts (.laysStatic "java/lang/String" "COMPACT_STRINGS" "Z") (by decide +kernel)) (hts (.initialized "java/lang/String") (by decide +kernel)) (va_eqi (hq (.eq (.static "java/lang/String" "COMPACT_STRINGS" "Z") (.int 1)) (by decide +kernel))) hA
  · exact va_Zqof (hts (.laysStatic "jdk/internal/util/Preconditions" "SIOOBE_FORMATTER" "Ljava/util/function/BiFunction;") (by decide +kernel)) (hts (.initialized "jdk/internal/util/Preconditions") (by decide +kernel)) (hq (.isRef (.static "jdk/internal/util/Preconditions" "SIOOBE_FORMATTER" "Ljava/util/function/BiFunction;")) (by decide +kernel)) hA
/-- the addresses, once the class is made and the reference's cell -/
def stg (g : Nat → Nat) (q b : Nat) (adK : Nat → Nat) : Nat → Nat := fun k => cond (Nat.ble k 55) (g k) (cond (Nat.beq k 56) q (cond (Nat.beq k 75) b (adK (k - 76))))
theorem stg_str {g adK : Nat → Nat} {q b : Nat} (j : Nat) : stg g q b adK (dN + 1 + j) = adK j := by
  unfold stg dN
  have h1 : Nat.ble (75 + 1 + j) 55 = false := by
    cases h : Nat.ble (75 + 1 + j) 55 with
    | false => rfl
    | true => rw [Nat.ble_eq] at h; omega
  have h2 : Nat.beq (75 + 1 + j) 56 = false := by
    cases h : Nat.beq (75 + 1 + j) 56 with
    | false => rfl
    | true => have := Nat.eq_of_beq_eq_true h; omega
  have h3 : Nat.beq (75 + 1 + j) 75 = false := by
    cases h : Nat.beq (75 + 1 + j) 75 with
    | false => rfl
    | true => have := Nat.eq_of_beq_eq_true h; omega
  rw [h1, h2, h3]
  show adK (75 + 1 + j - 76) = adK j
  congr 1
  omega
set_option maxRecDepth 100000 in
theorem stg_L57 {tyC : Nat → ClassId} {g adK : Nat → Nat} {q b : Nat} : L56 tyC g ++ [(q, .inr (6, st34))] = L57 tyC (stg g q b adK) := by
  rw [L56_x, pA2_eq (g := g) (g' := stg g q b adK) rfl rfl, pB4_eq (g := g) (g' := stg g q b adK) rfl rfl rfl rfl]
  rfl

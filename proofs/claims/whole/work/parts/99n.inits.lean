/-! the constructors: first those that make arrays alone -/
theorem ty_int {D : va_G} {tyC : Nat → ClassId} {s : State} {cA : ClassId} (h : va_K D vwCl (dtys tyC ++ [(cA, .int)]) s) : cA = tyC 0 := Option.some.inj ((h.2 6 (cA, .int) rfl).2.symm.trans (h.2 0 (tyC 0, .int) rfl).2)
theorem ty_byte {D : va_G} {tyC : Nat → ClassId} {s : State} {cA : ClassId} (h : va_K D vwCl (dtys tyC ++ [(cA, .byte)]) s) : cA = tyC 1 := Option.some.inj ((h.2 6 (cA, .byte) rfl).2.symm.trans (h.2 1 (tyC 1, .byte) rfl).2)
theorem ty_boolean {D : va_G} {tyC : Nat → ClassId} {s : State} {cA : ClassId} (h : va_K D vwCl (dtys tyC ++ [(cA, .boolean)]) s) : cA = tyC 2 := Option.some.inj ((h.2 6 (cA, .boolean) rfl).2.symm.trans (h.2 2 (tyC 2, .boolean) rfl).2)
theorem ty_long {D : va_G} {tyC : Nat → ClassId} {s : State} {cA : ClassId} (h : va_K D vwCl (dtys tyC ++ [(cA, .long)]) s) : cA = tyC 3 := Option.some.inj ((h.2 6 (cA, .long) rfl).2.symm.trans (h.2 3 (tyC 3, .long) rfl).2)
theorem jw_oi : Cond.instanceMethod objectInit ∈ dgw := in_dgw (by decide +kernel) rfl
theorem jw_oc : Cond.code objectInit ⟨#[0xb1]⟩ 1 none ∈ dgw := in_dgw (by decide +kernel) rfl
theorem jw_ai : Cond.arrayClass .int ∈ dgw := in_dgw (by decide +kernel) rfl
theorem jw_ab : Cond.arrayClass .byte ∈ dgw := in_dgw (by decide +kernel) rfl
theorem jw_az : Cond.arrayClass .boolean ∈ dgw := in_dgw (by decide +kernel) rfl
theorem jw_al : Cond.arrayClass .long ∈ dgw := in_dgw (by decide +kernel) rfl
section INITS
variable {D : va_G} {tyC : Nat → ClassId}
set_option maxHeartbeats 4000000 in
theorem c_i0 (l : Launch) (h0 sz : Nat) : Met l yX0_init (jws yX0_init cX0_init 1 none) { frames := 1, cells := 4, slots := 56, locals := 12 } (va_Pc [.ref h0] (fun U => U.heap.size = sz ∧ va_P D vwCl [(h0, .inr (0, [.null, .null, .null, .null]))] U.heap ∧ va_K D vwCl (dtys tyC) U ∧ va_D (fun _ => True) [(h0, .inr (0, [.null, .null, .null, .null]))])) (va_Qv (fun _ : Unit => True) (fun _ t => ∃ q1 q2 q3 q4 : Nat, va_P D vwCl [(h0, .inr (0, [.ref q1, .ref q2, .ref q3, .ref q4])), (q1, .inl (tyC 0, 24, .inl (fun _ => 0))), (q2, .inl (tyC 0, 13, .inl (fun _ => 0))), (q3, .inl (tyC 3, 13, .inr (.inl (fun _ => 0)))), (q4, .inl (tyC 2, 6, .inl (fun _ => 0)))] t.heap ∧ va_D (va_A [(h0, .inr (0, [.null, .null, .null, .null]))] sz) [(h0, .inr (0, [.ref q1, .ref q2, .ref q3, .ref q4])), (q1, .inl (tyC 0, 24, .inl (fun _ => 0))), (q2, .inl (tyC 0, 13, .inl (fun _ => 0))), (q3, .inl (tyC 3, 13, .inr (.inl (fun _ => 0)))), (q4, .inl (tyC 2, 6, .inl (fun _ => 0)))]) (va_A [(h0, .inr (0, [.null, .null, .null, .null]))] sz)) 4 56 (va_A [(h0, .inr (0, [.null, .null, .null, .null]))] sz) := by
  refine Met.ofW (cc := cX0_init) (maxL := 1) (ret := none) (by decide +kernel) rfl ?_
  intro p e s m args below meth c s₁ B hml hv
  obtain ⟨rfl, hsz, hP, hK, hD0⟩ := hv
  have hx := B.exec
  have hb := B.bytes
  have hr := B.returns
  have hts0 := atoms_spec (ws := jws yX0_init cX0_init 1 none) B.pre
  have hts : ∀ w ∈ dgw, w.before #[Value.ref h0] s = true := fun w hw => hts0 w (List.mem_cons_of_mem _ hw)
  have hown : s.vm.findClass RX0 = some m.cls := findClass_of_methodNamed B.named
  have hin : meth.name = "<init>" := (name_of_methodNamed B.named B.method).1
  subst hsz
  have hD := hD0.self (sz := s.heap.size)
  generalize hAe : va_A [(h0, .inr (0, [.null, .null, .null, .null]))] s.heap.size = A at hD ⊢
  have hA : ∀ q : Nat, s.heap.size ≤ q → A q := fun q h => by rw [← hAe]; exact Or.inr h
  have hS : va_S A s.heap s.heap [] := va_S.rf
  have hP : va_P D vwCl [(h0, .inr (0, [.null, .null, .null, .null]))] s.heap := hP
  have hl := lv_entry ([.ref h0]) (n := 1) (Nat.le_of_ble_eq_true rfl)
  rw [lg_entry_eq]
  generalize (lg_sl ([.ref h0]) ++ List.replicate (1 - (lg_sl ([.ref h0])).length) Slot.unset).toArray = ls at hl ⊢
  have hl : lv_has ls 1 [(0, .ref h0)] := hl
  refine lv_aload_n hx hb dX0_init_0 rfl (lv_at hl 0 rfl) ?_
  refine W.objInit hx hb hown (hts (.methodLink RX0 3 objectInit) (in_dgw (by decide +kernel) rfl)) (hts _ jw_oi) (hts _ jw_oc) rfl (by rw [hml]; exact hl.1) rfl dX0_init_1 (Nat.le_of_ble_eq_true rfl) (Nat.le_of_ble_eq_true rfl) ?_
  refine W.eq (g2 := F0 m 4 ls []) rfl ?_
  refine lv_aload_n hx hb dX0_init_4 rfl (lv_at hl 0 rfl) ?_
  refine lv_bipush (v := 24) hx hb dX0_init_5 (by decide) ?_
  refine va_newa (atype := .int) (ty := .int) (a0 := (24, .inl (fun _ => 0))) (n := 24) (N' := 24) hx hb (hts _ jw_ai) rfl hK hP hD hS hA (fun _ => rfl) (by decide) (by decide) (by decide) (Nat.le_of_ble_eq_true rfl) (Nat.le_of_ble_eq_true rfl) dX0_init_7 (fun q1 cA H hK2 hP hD hS => ?_)
  obtain rfl := ty_int hK2
  refine W.widen (k := 1) (n := 24) (by omega) (by omega) ?_
  have hP : va_P D vwCl [(h0, .inr (0, [.null, .null, .null, .null])), (q1, .inl (tyC 0, 24, .inl (fun _ => 0)))] H := hP
  have hD : va_D A [(h0, .inr (0, [.null, .null, .null, .null])), (q1, .inl (tyC 0, 24, .inl (fun _ => 0)))] := hD
  refine va_putF (ci := 0) (v := .ref q1) (C := RX0) (T := TX0) (N := 4) (ty := .array .int) hx hb hts (dlay_in (ci := 0) rfl) tyX0 tyX0_ok nmX0 hown hK hP hD hS 0 rfl rfl 0 (by decide) (hts (.fieldLink RX0 9 "GuardedCode$Costs" "flats" "[I") (in_dgw (by decide +kernel) rfl)) (fun _ h9 => h9) rfl hin rfl (by decide +kernel) rfl rfl (Nat.le_of_ble_eq_true rfl) dX0_init_9 (fun H locs hP hD hS => ?_)
  have hP : va_P D vwCl [(h0, .inr (0, [.ref q1, .null, .null, .null])), (q1, .inl (tyC 0, 24, .inl (fun _ => 0)))] H := hP
  have hD : va_D A [(h0, .inr (0, [.ref q1, .null, .null, .null])), (q1, .inl (tyC 0, 24, .inl (fun _ => 0)))] := hD
  refine lv_aload_n hx hb dX0_init_12 rfl (lv_at hl 0 rfl) ?_
  refine lv_bipush (v := 13) hx hb dX0_init_13 (by decide) ?_
  refine va_newa (atype := .int) (ty := .int) (a0 := (13, .inl (fun _ => 0))) (n := 13) (N' := 13) hx hb (hts _ jw_ai) rfl hK hP hD hS hA (fun _ => rfl) (by decide) (by decide) (by decide) (Nat.le_of_ble_eq_true rfl) (Nat.le_of_ble_eq_true rfl) dX0_init_15 (fun q2 cA H hK2 hP hD hS => ?_)
  obtain rfl := ty_int hK2
  refine W.widen (k := 2) (n := 37) (by omega) (by omega) ?_
  have hP : va_P D vwCl [(h0, .inr (0, [.ref q1, .null, .null, .null])), (q1, .inl (tyC 0, 24, .inl (fun _ => 0))), (q2, .inl (tyC 0, 13, .inl (fun _ => 0)))] H := hP
  have hD : va_D A [(h0, .inr (0, [.ref q1, .null, .null, .null])), (q1, .inl (tyC 0, 24, .inl (fun _ => 0))), (q2, .inl (tyC 0, 13, .inl (fun _ => 0)))] := hD
  refine va_putF (ci := 0) (v := .ref q2) (C := RX0) (T := TX0) (N := 4) (ty := .array .int) hx hb hts (dlay_in (ci := 0) rfl) tyX0 tyX0_ok nmX0 hown hK hP hD hS 0 rfl rfl 1 (by decide) (hts (.fieldLink RX0 15 "GuardedCode$Costs" "sideFlats" "[I") (in_dgw (by decide +kernel) rfl)) (fun _ h9 => h9) rfl hin rfl (by decide +kernel) rfl rfl (Nat.le_of_ble_eq_true rfl) dX0_init_17 (fun H locs hP hD hS => ?_)
  have hP : va_P D vwCl [(h0, .inr (0, [.ref q1, .ref q2, .null, .null])), (q1, .inl (tyC 0, 24, .inl (fun _ => 0))), (q2, .inl (tyC 0, 13, .inl (fun _ => 0)))] H := hP
  have hD : va_D A [(h0, .inr (0, [.ref q1, .ref q2, .null, .null])), (q1, .inl (tyC 0, 24, .inl (fun _ => 0))), (q2, .inl (tyC 0, 13, .inl (fun _ => 0)))] := hD
  refine lv_aload_n hx hb dX0_init_20 rfl (lv_at hl 0 rfl) ?_
  refine lv_bipush (v := 13) hx hb dX0_init_21 (by decide) ?_
  refine va_newa (atype := .long) (ty := .long) (a0 := (13, .inr (.inl (fun _ => 0)))) (n := 13) (N' := 13) hx hb (hts _ jw_al) rfl hK hP hD hS hA (fun _ => rfl) (by decide) (by decide) (by decide) (Nat.le_of_ble_eq_true rfl) (Nat.le_of_ble_eq_true rfl) dX0_init_23 (fun q3 cA H hK2 hP hD hS => ?_)
  obtain rfl := ty_long hK2
  refine W.widen (k := 3) (n := 50) (by omega) (by omega) ?_
  have hP : va_P D vwCl [(h0, .inr (0, [.ref q1, .ref q2, .null, .null])), (q1, .inl (tyC 0, 24, .inl (fun _ => 0))), (q2, .inl (tyC 0, 13, .inl (fun _ => 0))), (q3, .inl (tyC 3, 13, .inr (.inl (fun _ => 0))))] H := hP
  have hD : va_D A [(h0, .inr (0, [.ref q1, .ref q2, .null, .null])), (q1, .inl (tyC 0, 24, .inl (fun _ => 0))), (q2, .inl (tyC 0, 13, .inl (fun _ => 0))), (q3, .inl (tyC 3, 13, .inr (.inl (fun _ => 0))))] := hD
  refine va_putF (ci := 0) (v := .ref q3) (C := RX0) (T := TX0) (N := 4) (ty := .array .long) hx hb hts (dlay_in (ci := 0) rfl) tyX0 tyX0_ok nmX0 hown hK hP hD hS 0 rfl rfl 2 (by decide) (hts (.fieldLink RX0 18 "GuardedCode$Costs" "sideMeans" "[J") (in_dgw (by decide +kernel) rfl)) (fun _ h9 => h9) rfl hin rfl (by decide +kernel) rfl rfl (Nat.le_of_ble_eq_true rfl) dX0_init_25 (fun H locs hP hD hS => ?_)
  have hP : va_P D vwCl [(h0, .inr (0, [.ref q1, .ref q2, .ref q3, .null])), (q1, .inl (tyC 0, 24, .inl (fun _ => 0))), (q2, .inl (tyC 0, 13, .inl (fun _ => 0))), (q3, .inl (tyC 3, 13, .inr (.inl (fun _ => 0))))] H := hP
  have hD : va_D A [(h0, .inr (0, [.ref q1, .ref q2, .ref q3, .null])), (q1, .inl (tyC 0, 24, .inl (fun _ => 0))), (q2, .inl (tyC 0, 13, .inl (fun _ => 0))), (q3, .inl (tyC 3, 13, .inr (.inl (fun _ => 0))))] := hD
  refine lv_aload_n hx hb dX0_init_28 rfl (lv_at hl 0 rfl) ?_
  refine lv_bipush (v := 6) hx hb dX0_init_29 (by decide) ?_
  refine va_newa (atype := .boolean) (ty := .boolean) (a0 := (6, .inl (fun _ => 0))) (n := 6) (N' := 6) hx hb (hts _ jw_az) rfl hK hP hD hS hA (fun _ => rfl) (by decide) (by decide) (by decide) (Nat.le_of_ble_eq_true rfl) (Nat.le_of_ble_eq_true rfl) dX0_init_31 (fun q4 cA H hK2 hP hD hS => ?_)
  obtain rfl := ty_boolean hK2
  refine W.widen (k := 4) (n := 56) (by omega) (by omega) ?_
  have hP : va_P D vwCl [(h0, .inr (0, [.ref q1, .ref q2, .ref q3, .null])), (q1, .inl (tyC 0, 24, .inl (fun _ => 0))), (q2, .inl (tyC 0, 13, .inl (fun _ => 0))), (q3, .inl (tyC 3, 13, .inr (.inl (fun _ => 0)))), (q4, .inl (tyC 2, 6, .inl (fun _ => 0)))] H := hP
  have hD : va_D A [(h0, .inr (0, [.ref q1, .ref q2, .ref q3, .null])), (q1, .inl (tyC 0, 24, .inl (fun _ => 0))), (q2, .inl (tyC 0, 13, .inl (fun _ => 0))), (q3, .inl (tyC 3, 13, .inr (.inl (fun _ => 0)))), (q4, .inl (tyC 2, 6, .inl (fun _ => 0)))] := hD
  refine va_putF (ci := 0) (v := .ref q4) (C := RX0) (T := TX0) (N := 4) (ty := .array .boolean) hx hb hts (dlay_in (ci := 0) rfl) tyX0 tyX0_ok nmX0 hown hK hP hD hS 0 rfl rfl 3 (by decide) (hts (.fieldLink RX0 22 "GuardedCode$Costs" "guarded" "[Z") (in_dgw (by decide +kernel) rfl)) (fun _ h9 => h9) rfl hin rfl (by decide +kernel) rfl rfl (Nat.le_of_ble_eq_true rfl) dX0_init_33 (fun H locs hP hD hS => ?_)
  have hP : va_P D vwCl [(h0, .inr (0, [.ref q1, .ref q2, .ref q3, .ref q4])), (q1, .inl (tyC 0, 24, .inl (fun _ => 0))), (q2, .inl (tyC 0, 13, .inl (fun _ => 0))), (q3, .inl (tyC 3, 13, .inr (.inl (fun _ => 0)))), (q4, .inl (tyC 2, 6, .inl (fun _ => 0)))] H := hP
  have hD : va_D A [(h0, .inr (0, [.ref q1, .ref q2, .ref q3, .ref q4])), (q1, .inl (tyC 0, 24, .inl (fun _ => 0))), (q2, .inl (tyC 0, 13, .inl (fun _ => 0))), (q3, .inl (tyC 3, 13, .inr (.inl (fun _ => 0)))), (q4, .inl (tyC 2, 6, .inl (fun _ => 0)))] := hD
  exact W.vret hx hb hr (fun t ht hW => ⟨⟨(), rfl, trivial, q1, q2, q3, q4, by rw [ht]; exact hP, hD⟩, hS.F ht⟩) hS.2.2 dX0_init_36 B.notSynchronized
set_option maxHeartbeats 4000000 in
theorem c_i2 (l : Launch) (h0 sz : Nat) : Met l yX2_init (jws yX2_init cX2_init 1 none) { frames := 1, cells := 1, slots := 8, locals := 12 } (va_Pc [.ref h0] (fun U => U.heap.size = sz ∧ va_P D vwCl [(h0, .inr (1, [.null, .int 0, .int 0, .int 0, .int 0, .int 0]))] U.heap ∧ va_K D vwCl (dtys tyC) U ∧ va_D (fun _ => True) [(h0, .inr (1, [.null, .int 0, .int 0, .int 0, .int 0, .int 0]))])) (va_Qv (fun _ : Unit => True) (fun _ t => ∃ q1 : Nat, va_P D vwCl [(h0, .inr (1, [.ref q1, .int 0, .int 0, .int 0, .int 0, .int (-4)])), (q1, .inl (tyC 0, 8, .inl (fun _ => 0)))] t.heap ∧ va_D (va_A [(h0, .inr (1, [.null, .int 0, .int 0, .int 0, .int 0, .int 0]))] sz) [(h0, .inr (1, [.ref q1, .int 0, .int 0, .int 0, .int 0, .int (-4)])), (q1, .inl (tyC 0, 8, .inl (fun _ => 0)))]) (va_A [(h0, .inr (1, [.null, .int 0, .int 0, .int 0, .int 0, .int 0]))] sz)) 1 8 (va_A [(h0, .inr (1, [.null, .int 0, .int 0, .int 0, .int 0, .int 0]))] sz) := by
  refine Met.ofW (cc := cX2_init) (maxL := 1) (ret := none) (by decide +kernel) rfl ?_
  intro p e s m args below meth c s₁ B hml hv
  obtain ⟨rfl, hsz, hP, hK, hD0⟩ := hv
  have hx := B.exec
  have hb := B.bytes
  have hr := B.returns
  have hts0 := atoms_spec (ws := jws yX2_init cX2_init 1 none) B.pre
  have hts : ∀ w ∈ dgw, w.before #[Value.ref h0] s = true := fun w hw => hts0 w (List.mem_cons_of_mem _ hw)
  have hown : s.vm.findClass RX2 = some m.cls := findClass_of_methodNamed B.named
  have hin : meth.name = "<init>" := (name_of_methodNamed B.named B.method).1
  subst hsz
  have hD := hD0.self (sz := s.heap.size)
  generalize hAe : va_A [(h0, .inr (1, [.null, .int 0, .int 0, .int 0, .int 0, .int 0]))] s.heap.size = A at hD ⊢
  have hA : ∀ q : Nat, s.heap.size ≤ q → A q := fun q h => by rw [← hAe]; exact Or.inr h
  have hS : va_S A s.heap s.heap [] := va_S.rf
  have hP : va_P D vwCl [(h0, .inr (1, [.null, .int 0, .int 0, .int 0, .int 0, .int 0]))] s.heap := hP
  have hl := lv_entry ([.ref h0]) (n := 1) (Nat.le_of_ble_eq_true rfl)
  rw [lg_entry_eq]
  generalize (lg_sl ([.ref h0]) ++ List.replicate (1 - (lg_sl ([.ref h0])).length) Slot.unset).toArray = ls at hl ⊢
  have hl : lv_has ls 1 [(0, .ref h0)] := hl
  refine lv_aload_n hx hb dX2_init_0 rfl (lv_at hl 0 rfl) ?_
  refine W.objInit hx hb hown (hts (.methodLink RX2 3 objectInit) (in_dgw (by decide +kernel) rfl)) (hts _ jw_oi) (hts _ jw_oc) rfl (by rw [hml]; exact hl.1) rfl dX2_init_1 (Nat.le_of_ble_eq_true rfl) (Nat.le_of_ble_eq_true rfl) ?_
  refine W.eq (g2 := F0 m 4 ls []) rfl ?_
  refine lv_aload_n hx hb dX2_init_4 rfl (lv_at hl 0 rfl) ?_
  refine lv_bipush (v := 8) hx hb dX2_init_5 (by decide) ?_
  refine va_newa (atype := .int) (ty := .int) (a0 := (8, .inl (fun _ => 0))) (n := 8) (N' := 8) hx hb (hts _ jw_ai) rfl hK hP hD hS hA (fun _ => rfl) (by decide) (by decide) (by decide) (Nat.le_of_ble_eq_true rfl) (Nat.le_of_ble_eq_true rfl) dX2_init_7 (fun q1 cA H hK2 hP hD hS => ?_)
  obtain rfl := ty_int hK2
  refine W.widen (k := 1) (n := 8) (by omega) (by omega) ?_
  have hP : va_P D vwCl [(h0, .inr (1, [.null, .int 0, .int 0, .int 0, .int 0, .int 0])), (q1, .inl (tyC 0, 8, .inl (fun _ => 0)))] H := hP
  have hD : va_D A [(h0, .inr (1, [.null, .int 0, .int 0, .int 0, .int 0, .int 0])), (q1, .inl (tyC 0, 8, .inl (fun _ => 0)))] := hD
  refine va_putF (ci := 1) (v := .ref q1) (C := RX2) (T := TX2) (N := 6) (ty := .array .int) hx hb hts (dlay_in (ci := 1) rfl) tyX2 tyX2_ok nmX2 hown hK hP hD hS 0 rfl rfl 0 (by decide) (hts (.fieldLink RX2 9 "GuardedCode$Machine" "values" "[I") (in_dgw (by decide +kernel) rfl)) (fun _ h9 => h9) rfl hin rfl (by decide +kernel) rfl rfl (Nat.le_of_ble_eq_true rfl) dX2_init_9 (fun H locs hP hD hS => ?_)
  have hP : va_P D vwCl [(h0, .inr (1, [.ref q1, .int 0, .int 0, .int 0, .int 0, .int 0])), (q1, .inl (tyC 0, 8, .inl (fun _ => 0)))] H := hP
  have hD : va_D A [(h0, .inr (1, [.ref q1, .int 0, .int 0, .int 0, .int 0, .int 0])), (q1, .inl (tyC 0, 8, .inl (fun _ => 0)))] := hD
  refine lv_aload_n hx hb dX2_init_12 rfl (lv_at hl 0 rfl) ?_
  refine lv_bipush (v := (-4)) hx hb dX2_init_13 (by decide) ?_
  refine va_put (ci := 1) (v := .int (-4)) (C := RX2) (T := TX2) (N := 6) (ty := .int) hx hb hts (dlay_in (ci := 1) rfl) tyX2 tyX2_ok nmX2 hown hK hP hD hS 0 rfl rfl 5 (by decide) (hts (.fieldLink RX2 15 "GuardedCode$Machine" "stoppedBy" "I") (in_dgw (by decide +kernel) rfl)) (fun _ h9 => h9) rfl (by decide +kernel) rfl rfl (Nat.le_of_ble_eq_true rfl) dX2_init_15 (fun H locs hP hD hS => ?_)
  have hP : va_P D vwCl [(h0, .inr (1, [.ref q1, .int 0, .int 0, .int 0, .int 0, .int (-4)])), (q1, .inl (tyC 0, 8, .inl (fun _ => 0)))] H := hP
  have hD : va_D A [(h0, .inr (1, [.ref q1, .int 0, .int 0, .int 0, .int 0, .int (-4)])), (q1, .inl (tyC 0, 8, .inl (fun _ => 0)))] := hD
  exact W.vret hx hb hr (fun t ht hW => ⟨⟨(), rfl, trivial, q1, by rw [ht]; exact hP, hD⟩, hS.F ht⟩) hS.2.2 dX2_init_18 B.notSynchronized
set_option maxHeartbeats 4000000 in
theorem c_i3 (l : Launch) (h0 sz : Nat) : Met l yX3_init (jws yX3_init cX3_init 1 none) { frames := 1, cells := 7, slots := 132, locals := 12 } (va_Pc [.ref h0] (fun U => U.heap.size = sz ∧ va_P D vwCl [(h0, .inr (2, [.null, .null, .null, .null, .null, .null, .null, .int 0, .int 0, .int 0]))] U.heap ∧ va_K D vwCl (dtys tyC) U ∧ va_D (fun _ => True) [(h0, .inr (2, [.null, .null, .null, .null, .null, .null, .null, .int 0, .int 0, .int 0]))])) (va_Qv (fun _ : Unit => True) (fun _ t => ∃ q1 q2 q3 q4 q5 q6 q7 : Nat, va_P D vwCl [(h0, .inr (2, [.ref q1, .ref q2, .ref q3, .ref q4, .ref q5, .ref q6, .ref q7, .int 0, .int 0, .int (255)])), (q1, .inl (tyC 0, 24, .inl (fun _ => 0))), (q2, .inl (tyC 0, 24, .inl (fun _ => 0))), (q3, .inl (tyC 0, 24, .inl (fun _ => 0))), (q4, .inl (tyC 0, 24, .inl (fun _ => 0))), (q5, .inl (tyC 0, 24, .inl (fun _ => 0))), (q6, .inl (tyC 0, 6, .inl (fun _ => 0))), (q7, .inl (tyC 0, 6, .inl (fun _ => 0)))] t.heap ∧ va_D (va_A [(h0, .inr (2, [.null, .null, .null, .null, .null, .null, .null, .int 0, .int 0, .int 0]))] sz) [(h0, .inr (2, [.ref q1, .ref q2, .ref q3, .ref q4, .ref q5, .ref q6, .ref q7, .int 0, .int 0, .int (255)])), (q1, .inl (tyC 0, 24, .inl (fun _ => 0))), (q2, .inl (tyC 0, 24, .inl (fun _ => 0))), (q3, .inl (tyC 0, 24, .inl (fun _ => 0))), (q4, .inl (tyC 0, 24, .inl (fun _ => 0))), (q5, .inl (tyC 0, 24, .inl (fun _ => 0))), (q6, .inl (tyC 0, 6, .inl (fun _ => 0))), (q7, .inl (tyC 0, 6, .inl (fun _ => 0)))]) (va_A [(h0, .inr (2, [.null, .null, .null, .null, .null, .null, .null, .int 0, .int 0, .int 0]))] sz)) 7 132 (va_A [(h0, .inr (2, [.null, .null, .null, .null, .null, .null, .null, .int 0, .int 0, .int 0]))] sz) := by
  refine Met.ofW (cc := cX3_init) (maxL := 1) (ret := none) (by decide +kernel) rfl ?_
  intro p e s m args below meth c s₁ B hml hv
  obtain ⟨rfl, hsz, hP, hK, hD0⟩ := hv
  have hx := B.exec
  have hb := B.bytes
  have hr := B.returns
  have hts0 := atoms_spec (ws := jws yX3_init cX3_init 1 none) B.pre
  have hts : ∀ w ∈ dgw, w.before #[Value.ref h0] s = true := fun w hw => hts0 w (List.mem_cons_of_mem _ hw)
  have hown : s.vm.findClass RX3 = some m.cls := findClass_of_methodNamed B.named
  have hin : meth.name = "<init>" := (name_of_methodNamed B.named B.method).1
  subst hsz
  have hD := hD0.self (sz := s.heap.size)
  generalize hAe : va_A [(h0, .inr (2, [.null, .null, .null, .null, .null, .null, .null, .int 0, .int 0, .int 0]))] s.heap.size = A at hD ⊢
  have hA : ∀ q : Nat, s.heap.size ≤ q → A q := fun q h => by rw [← hAe]; exact Or.inr h
  have hS : va_S A s.heap s.heap [] := va_S.rf
  have hP : va_P D vwCl [(h0, .inr (2, [.null, .null, .null, .null, .null, .null, .null, .int 0, .int 0, .int 0]))] s.heap := hP
  have hl := lv_entry ([.ref h0]) (n := 1) (Nat.le_of_ble_eq_true rfl)
  rw [lg_entry_eq]
  generalize (lg_sl ([.ref h0]) ++ List.replicate (1 - (lg_sl ([.ref h0])).length) Slot.unset).toArray = ls at hl ⊢
  have hl : lv_has ls 1 [(0, .ref h0)] := hl
  refine lv_aload_n hx hb dX3_init_0 rfl (lv_at hl 0 rfl) ?_
  refine W.objInit hx hb hown (hts (.methodLink RX3 3 objectInit) (in_dgw (by decide +kernel) rfl)) (hts _ jw_oi) (hts _ jw_oc) rfl (by rw [hml]; exact hl.1) rfl dX3_init_1 (Nat.le_of_ble_eq_true rfl) (Nat.le_of_ble_eq_true rfl) ?_
  refine W.eq (g2 := F0 m 4 ls []) rfl ?_
  refine lv_aload_n hx hb dX3_init_4 rfl (lv_at hl 0 rfl) ?_
  refine lv_bipush (v := 24) hx hb dX3_init_5 (by decide) ?_
  refine va_newa (atype := .int) (ty := .int) (a0 := (24, .inl (fun _ => 0))) (n := 24) (N' := 24) hx hb (hts _ jw_ai) rfl hK hP hD hS hA (fun _ => rfl) (by decide) (by decide) (by decide) (Nat.le_of_ble_eq_true rfl) (Nat.le_of_ble_eq_true rfl) dX3_init_7 (fun q1 cA H hK2 hP hD hS => ?_)
  obtain rfl := ty_int hK2
  refine W.widen (k := 1) (n := 24) (by omega) (by omega) ?_
  have hP : va_P D vwCl [(h0, .inr (2, [.null, .null, .null, .null, .null, .null, .null, .int 0, .int 0, .int 0])), (q1, .inl (tyC 0, 24, .inl (fun _ => 0)))] H := hP
  have hD : va_D A [(h0, .inr (2, [.null, .null, .null, .null, .null, .null, .null, .int 0, .int 0, .int 0])), (q1, .inl (tyC 0, 24, .inl (fun _ => 0)))] := hD
  refine va_putF (ci := 2) (v := .ref q1) (C := RX3) (T := TX3) (N := 10) (ty := .array .int) hx hb hts (dlay_in (ci := 2) rfl) tyX3 tyX3_ok nmX3 hown hK hP hD hS 0 rfl rfl 0 (by decide) (hts (.fieldLink RX3 9 "GuardedCode$Program" "kinds" "[I") (in_dgw (by decide +kernel) rfl)) (fun _ h9 => h9) rfl hin rfl (by decide +kernel) rfl rfl (Nat.le_of_ble_eq_true rfl) dX3_init_9 (fun H locs hP hD hS => ?_)
  have hP : va_P D vwCl [(h0, .inr (2, [.ref q1, .null, .null, .null, .null, .null, .null, .int 0, .int 0, .int 0])), (q1, .inl (tyC 0, 24, .inl (fun _ => 0)))] H := hP
  have hD : va_D A [(h0, .inr (2, [.ref q1, .null, .null, .null, .null, .null, .null, .int 0, .int 0, .int 0])), (q1, .inl (tyC 0, 24, .inl (fun _ => 0)))] := hD
  refine lv_aload_n hx hb dX3_init_12 rfl (lv_at hl 0 rfl) ?_
  refine lv_bipush (v := 24) hx hb dX3_init_13 (by decide) ?_
  refine va_newa (atype := .int) (ty := .int) (a0 := (24, .inl (fun _ => 0))) (n := 24) (N' := 24) hx hb (hts _ jw_ai) rfl hK hP hD hS hA (fun _ => rfl) (by decide) (by decide) (by decide) (Nat.le_of_ble_eq_true rfl) (Nat.le_of_ble_eq_true rfl) dX3_init_15 (fun q2 cA H hK2 hP hD hS => ?_)
  obtain rfl := ty_int hK2
  refine W.widen (k := 2) (n := 48) (by omega) (by omega) ?_
  have hP : va_P D vwCl [(h0, .inr (2, [.ref q1, .null, .null, .null, .null, .null, .null, .int 0, .int 0, .int 0])), (q1, .inl (tyC 0, 24, .inl (fun _ => 0))), (q2, .inl (tyC 0, 24, .inl (fun _ => 0)))] H := hP
  have hD : va_D A [(h0, .inr (2, [.ref q1, .null, .null, .null, .null, .null, .null, .int 0, .int 0, .int 0])), (q1, .inl (tyC 0, 24, .inl (fun _ => 0))), (q2, .inl (tyC 0, 24, .inl (fun _ => 0)))] := hD
  refine va_putF (ci := 2) (v := .ref q2) (C := RX3) (T := TX3) (N := 10) (ty := .array .int) hx hb hts (dlay_in (ci := 2) rfl) tyX3 tyX3_ok nmX3 hown hK hP hD hS 0 rfl rfl 1 (by decide) (hts (.fieldLink RX3 15 "GuardedCode$Program" "targets" "[I") (in_dgw (by decide +kernel) rfl)) (fun _ h9 => h9) rfl hin rfl (by decide +kernel) rfl rfl (Nat.le_of_ble_eq_true rfl) dX3_init_17 (fun H locs hP hD hS => ?_)
  have hP : va_P D vwCl [(h0, .inr (2, [.ref q1, .ref q2, .null, .null, .null, .null, .null, .int 0, .int 0, .int 0])), (q1, .inl (tyC 0, 24, .inl (fun _ => 0))), (q2, .inl (tyC 0, 24, .inl (fun _ => 0)))] H := hP
  have hD : va_D A [(h0, .inr (2, [.ref q1, .ref q2, .null, .null, .null, .null, .null, .int 0, .int 0, .int 0])), (q1, .inl (tyC 0, 24, .inl (fun _ => 0))), (q2, .inl (tyC 0, 24, .inl (fun _ => 0)))] := hD
  refine lv_aload_n hx hb dX3_init_20 rfl (lv_at hl 0 rfl) ?_
  refine lv_bipush (v := 24) hx hb dX3_init_21 (by decide) ?_
  refine va_newa (atype := .int) (ty := .int) (a0 := (24, .inl (fun _ => 0))) (n := 24) (N' := 24) hx hb (hts _ jw_ai) rfl hK hP hD hS hA (fun _ => rfl) (by decide) (by decide) (by decide) (Nat.le_of_ble_eq_true rfl) (Nat.le_of_ble_eq_true rfl) dX3_init_23 (fun q3 cA H hK2 hP hD hS => ?_)
  obtain rfl := ty_int hK2
  refine W.widen (k := 3) (n := 72) (by omega) (by omega) ?_
  have hP : va_P D vwCl [(h0, .inr (2, [.ref q1, .ref q2, .null, .null, .null, .null, .null, .int 0, .int 0, .int 0])), (q1, .inl (tyC 0, 24, .inl (fun _ => 0))), (q2, .inl (tyC 0, 24, .inl (fun _ => 0))), (q3, .inl (tyC 0, 24, .inl (fun _ => 0)))] H := hP
  have hD : va_D A [(h0, .inr (2, [.ref q1, .ref q2, .null, .null, .null, .null, .null, .int 0, .int 0, .int 0])), (q1, .inl (tyC 0, 24, .inl (fun _ => 0))), (q2, .inl (tyC 0, 24, .inl (fun _ => 0))), (q3, .inl (tyC 0, 24, .inl (fun _ => 0)))] := hD
  refine va_putF (ci := 2) (v := .ref q3) (C := RX3) (T := TX3) (N := 10) (ty := .array .int) hx hb hts (dlay_in (ci := 2) rfl) tyX3 tyX3_ok nmX3 hown hK hP hD hS 0 rfl rfl 2 (by decide) (hts (.fieldLink RX3 18 "GuardedCode$Program" "seconds" "[I") (in_dgw (by decide +kernel) rfl)) (fun _ h9 => h9) rfl hin rfl (by decide +kernel) rfl rfl (Nat.le_of_ble_eq_true rfl) dX3_init_25 (fun H locs hP hD hS => ?_)
  have hP : va_P D vwCl [(h0, .inr (2, [.ref q1, .ref q2, .ref q3, .null, .null, .null, .null, .int 0, .int 0, .int 0])), (q1, .inl (tyC 0, 24, .inl (fun _ => 0))), (q2, .inl (tyC 0, 24, .inl (fun _ => 0))), (q3, .inl (tyC 0, 24, .inl (fun _ => 0)))] H := hP
  have hD : va_D A [(h0, .inr (2, [.ref q1, .ref q2, .ref q3, .null, .null, .null, .null, .int 0, .int 0, .int 0])), (q1, .inl (tyC 0, 24, .inl (fun _ => 0))), (q2, .inl (tyC 0, 24, .inl (fun _ => 0))), (q3, .inl (tyC 0, 24, .inl (fun _ => 0)))] := hD
  refine lv_aload_n hx hb dX3_init_28 rfl (lv_at hl 0 rfl) ?_
  refine lv_bipush (v := 24) hx hb dX3_init_29 (by decide) ?_
  refine va_newa (atype := .int) (ty := .int) (a0 := (24, .inl (fun _ => 0))) (n := 24) (N' := 24) hx hb (hts _ jw_ai) rfl hK hP hD hS hA (fun _ => rfl) (by decide) (by decide) (by decide) (Nat.le_of_ble_eq_true rfl) (Nat.le_of_ble_eq_true rfl) dX3_init_31 (fun q4 cA H hK2 hP hD hS => ?_)
  obtain rfl := ty_int hK2
  refine W.widen (k := 4) (n := 96) (by omega) (by omega) ?_
  have hP : va_P D vwCl [(h0, .inr (2, [.ref q1, .ref q2, .ref q3, .null, .null, .null, .null, .int 0, .int 0, .int 0])), (q1, .inl (tyC 0, 24, .inl (fun _ => 0))), (q2, .inl (tyC 0, 24, .inl (fun _ => 0))), (q3, .inl (tyC 0, 24, .inl (fun _ => 0))), (q4, .inl (tyC 0, 24, .inl (fun _ => 0)))] H := hP
  have hD : va_D A [(h0, .inr (2, [.ref q1, .ref q2, .ref q3, .null, .null, .null, .null, .int 0, .int 0, .int 0])), (q1, .inl (tyC 0, 24, .inl (fun _ => 0))), (q2, .inl (tyC 0, 24, .inl (fun _ => 0))), (q3, .inl (tyC 0, 24, .inl (fun _ => 0))), (q4, .inl (tyC 0, 24, .inl (fun _ => 0)))] := hD
  refine va_putF (ci := 2) (v := .ref q4) (C := RX3) (T := TX3) (N := 10) (ty := .array .int) hx hb hts (dlay_in (ci := 2) rfl) tyX3 tyX3_ok nmX3 hown hK hP hD hS 0 rfl rfl 3 (by decide) (hts (.fieldLink RX3 21 "GuardedCode$Program" "thirds" "[I") (in_dgw (by decide +kernel) rfl)) (fun _ h9 => h9) rfl hin rfl (by decide +kernel) rfl rfl (Nat.le_of_ble_eq_true rfl) dX3_init_33 (fun H locs hP hD hS => ?_)
  have hP : va_P D vwCl [(h0, .inr (2, [.ref q1, .ref q2, .ref q3, .ref q4, .null, .null, .null, .int 0, .int 0, .int 0])), (q1, .inl (tyC 0, 24, .inl (fun _ => 0))), (q2, .inl (tyC 0, 24, .inl (fun _ => 0))), (q3, .inl (tyC 0, 24, .inl (fun _ => 0))), (q4, .inl (tyC 0, 24, .inl (fun _ => 0)))] H := hP
  have hD : va_D A [(h0, .inr (2, [.ref q1, .ref q2, .ref q3, .ref q4, .null, .null, .null, .int 0, .int 0, .int 0])), (q1, .inl (tyC 0, 24, .inl (fun _ => 0))), (q2, .inl (tyC 0, 24, .inl (fun _ => 0))), (q3, .inl (tyC 0, 24, .inl (fun _ => 0))), (q4, .inl (tyC 0, 24, .inl (fun _ => 0)))] := hD
  refine lv_aload_n hx hb dX3_init_36 rfl (lv_at hl 0 rfl) ?_
  refine lv_bipush (v := 24) hx hb dX3_init_37 (by decide) ?_
  refine va_newa (atype := .int) (ty := .int) (a0 := (24, .inl (fun _ => 0))) (n := 24) (N' := 24) hx hb (hts _ jw_ai) rfl hK hP hD hS hA (fun _ => rfl) (by decide) (by decide) (by decide) (Nat.le_of_ble_eq_true rfl) (Nat.le_of_ble_eq_true rfl) dX3_init_39 (fun q5 cA H hK2 hP hD hS => ?_)
  obtain rfl := ty_int hK2
  refine W.widen (k := 5) (n := 120) (by omega) (by omega) ?_
  have hP : va_P D vwCl [(h0, .inr (2, [.ref q1, .ref q2, .ref q3, .ref q4, .null, .null, .null, .int 0, .int 0, .int 0])), (q1, .inl (tyC 0, 24, .inl (fun _ => 0))), (q2, .inl (tyC 0, 24, .inl (fun _ => 0))), (q3, .inl (tyC 0, 24, .inl (fun _ => 0))), (q4, .inl (tyC 0, 24, .inl (fun _ => 0))), (q5, .inl (tyC 0, 24, .inl (fun _ => 0)))] H := hP
  have hD : va_D A [(h0, .inr (2, [.ref q1, .ref q2, .ref q3, .ref q4, .null, .null, .null, .int 0, .int 0, .int 0])), (q1, .inl (tyC 0, 24, .inl (fun _ => 0))), (q2, .inl (tyC 0, 24, .inl (fun _ => 0))), (q3, .inl (tyC 0, 24, .inl (fun _ => 0))), (q4, .inl (tyC 0, 24, .inl (fun _ => 0))), (q5, .inl (tyC 0, 24, .inl (fun _ => 0)))] := hD
  refine va_putF (ci := 2) (v := .ref q5) (C := RX3) (T := TX3) (N := 10) (ty := .array .int) hx hb hts (dlay_in (ci := 2) rfl) tyX3 tyX3_ok nmX3 hown hK hP hD hS 0 rfl rfl 4 (by decide) (hts (.fieldLink RX3 24 "GuardedCode$Program" "guards" "[I") (in_dgw (by decide +kernel) rfl)) (fun _ h9 => h9) rfl hin rfl (by decide +kernel) rfl rfl (Nat.le_of_ble_eq_true rfl) dX3_init_41 (fun H locs hP hD hS => ?_)
  have hP : va_P D vwCl [(h0, .inr (2, [.ref q1, .ref q2, .ref q3, .ref q4, .ref q5, .null, .null, .int 0, .int 0, .int 0])), (q1, .inl (tyC 0, 24, .inl (fun _ => 0))), (q2, .inl (tyC 0, 24, .inl (fun _ => 0))), (q3, .inl (tyC 0, 24, .inl (fun _ => 0))), (q4, .inl (tyC 0, 24, .inl (fun _ => 0))), (q5, .inl (tyC 0, 24, .inl (fun _ => 0)))] H := hP
  have hD : va_D A [(h0, .inr (2, [.ref q1, .ref q2, .ref q3, .ref q4, .ref q5, .null, .null, .int 0, .int 0, .int 0])), (q1, .inl (tyC 0, 24, .inl (fun _ => 0))), (q2, .inl (tyC 0, 24, .inl (fun _ => 0))), (q3, .inl (tyC 0, 24, .inl (fun _ => 0))), (q4, .inl (tyC 0, 24, .inl (fun _ => 0))), (q5, .inl (tyC 0, 24, .inl (fun _ => 0)))] := hD
  refine lv_aload_n hx hb dX3_init_44 rfl (lv_at hl 0 rfl) ?_
  refine lv_bipush (v := 6) hx hb dX3_init_45 (by decide) ?_
  refine va_newa (atype := .int) (ty := .int) (a0 := (6, .inl (fun _ => 0))) (n := 6) (N' := 6) hx hb (hts _ jw_ai) rfl hK hP hD hS hA (fun _ => rfl) (by decide) (by decide) (by decide) (Nat.le_of_ble_eq_true rfl) (Nat.le_of_ble_eq_true rfl) dX3_init_47 (fun q6 cA H hK2 hP hD hS => ?_)
  obtain rfl := ty_int hK2
  refine W.widen (k := 6) (n := 126) (by omega) (by omega) ?_
  have hP : va_P D vwCl [(h0, .inr (2, [.ref q1, .ref q2, .ref q3, .ref q4, .ref q5, .null, .null, .int 0, .int 0, .int 0])), (q1, .inl (tyC 0, 24, .inl (fun _ => 0))), (q2, .inl (tyC 0, 24, .inl (fun _ => 0))), (q3, .inl (tyC 0, 24, .inl (fun _ => 0))), (q4, .inl (tyC 0, 24, .inl (fun _ => 0))), (q5, .inl (tyC 0, 24, .inl (fun _ => 0))), (q6, .inl (tyC 0, 6, .inl (fun _ => 0)))] H := hP
  have hD : va_D A [(h0, .inr (2, [.ref q1, .ref q2, .ref q3, .ref q4, .ref q5, .null, .null, .int 0, .int 0, .int 0])), (q1, .inl (tyC 0, 24, .inl (fun _ => 0))), (q2, .inl (tyC 0, 24, .inl (fun _ => 0))), (q3, .inl (tyC 0, 24, .inl (fun _ => 0))), (q4, .inl (tyC 0, 24, .inl (fun _ => 0))), (q5, .inl (tyC 0, 24, .inl (fun _ => 0))), (q6, .inl (tyC 0, 6, .inl (fun _ => 0)))] := hD
  refine va_putF (ci := 2) (v := .ref q6) (C := RX3) (T := TX3) (N := 10) (ty := .array .int) hx hb hts (dlay_in (ci := 2) rfl) tyX3 tyX3_ok nmX3 hown hK hP hD hS 0 rfl rfl 5 (by decide) (hts (.fieldLink RX3 27 "GuardedCode$Program" "ifPlaces" "[I") (in_dgw (by decide +kernel) rfl)) (fun _ h9 => h9) rfl hin rfl (by decide +kernel) rfl rfl (Nat.le_of_ble_eq_true rfl) dX3_init_49 (fun H locs hP hD hS => ?_)
  have hP : va_P D vwCl [(h0, .inr (2, [.ref q1, .ref q2, .ref q3, .ref q4, .ref q5, .ref q6, .null, .int 0, .int 0, .int 0])), (q1, .inl (tyC 0, 24, .inl (fun _ => 0))), (q2, .inl (tyC 0, 24, .inl (fun _ => 0))), (q3, .inl (tyC 0, 24, .inl (fun _ => 0))), (q4, .inl (tyC 0, 24, .inl (fun _ => 0))), (q5, .inl (tyC 0, 24, .inl (fun _ => 0))), (q6, .inl (tyC 0, 6, .inl (fun _ => 0)))] H := hP
  have hD : va_D A [(h0, .inr (2, [.ref q1, .ref q2, .ref q3, .ref q4, .ref q5, .ref q6, .null, .int 0, .int 0, .int 0])), (q1, .inl (tyC 0, 24, .inl (fun _ => 0))), (q2, .inl (tyC 0, 24, .inl (fun _ => 0))), (q3, .inl (tyC 0, 24, .inl (fun _ => 0))), (q4, .inl (tyC 0, 24, .inl (fun _ => 0))), (q5, .inl (tyC 0, 24, .inl (fun _ => 0))), (q6, .inl (tyC 0, 6, .inl (fun _ => 0)))] := hD
  refine lv_aload_n hx hb dX3_init_52 rfl (lv_at hl 0 rfl) ?_
  refine lv_bipush (v := 6) hx hb dX3_init_53 (by decide) ?_
  refine va_newa (atype := .int) (ty := .int) (a0 := (6, .inl (fun _ => 0))) (n := 6) (N' := 6) hx hb (hts _ jw_ai) rfl hK hP hD hS hA (fun _ => rfl) (by decide) (by decide) (by decide) (Nat.le_of_ble_eq_true rfl) (Nat.le_of_ble_eq_true rfl) dX3_init_55 (fun q7 cA H hK2 hP hD hS => ?_)
  obtain rfl := ty_int hK2
  refine W.widen (k := 7) (n := 132) (by omega) (by omega) ?_
  have hP : va_P D vwCl [(h0, .inr (2, [.ref q1, .ref q2, .ref q3, .ref q4, .ref q5, .ref q6, .null, .int 0, .int 0, .int 0])), (q1, .inl (tyC 0, 24, .inl (fun _ => 0))), (q2, .inl (tyC 0, 24, .inl (fun _ => 0))), (q3, .inl (tyC 0, 24, .inl (fun _ => 0))), (q4, .inl (tyC 0, 24, .inl (fun _ => 0))), (q5, .inl (tyC 0, 24, .inl (fun _ => 0))), (q6, .inl (tyC 0, 6, .inl (fun _ => 0))), (q7, .inl (tyC 0, 6, .inl (fun _ => 0)))] H := hP
  have hD : va_D A [(h0, .inr (2, [.ref q1, .ref q2, .ref q3, .ref q4, .ref q5, .ref q6, .null, .int 0, .int 0, .int 0])), (q1, .inl (tyC 0, 24, .inl (fun _ => 0))), (q2, .inl (tyC 0, 24, .inl (fun _ => 0))), (q3, .inl (tyC 0, 24, .inl (fun _ => 0))), (q4, .inl (tyC 0, 24, .inl (fun _ => 0))), (q5, .inl (tyC 0, 24, .inl (fun _ => 0))), (q6, .inl (tyC 0, 6, .inl (fun _ => 0))), (q7, .inl (tyC 0, 6, .inl (fun _ => 0)))] := hD
  refine va_putF (ci := 2) (v := .ref q7) (C := RX3) (T := TX3) (N := 10) (ty := .array .int) hx hb hts (dlay_in (ci := 2) rfl) tyX3 tyX3_ok nmX3 hown hK hP hD hS 0 rfl rfl 6 (by decide) (hts (.fieldLink RX3 30 "GuardedCode$Program" "wishes" "[I") (in_dgw (by decide +kernel) rfl)) (fun _ h9 => h9) rfl hin rfl (by decide +kernel) rfl rfl (Nat.le_of_ble_eq_true rfl) dX3_init_57 (fun H locs hP hD hS => ?_)
  have hP : va_P D vwCl [(h0, .inr (2, [.ref q1, .ref q2, .ref q3, .ref q4, .ref q5, .ref q6, .ref q7, .int 0, .int 0, .int 0])), (q1, .inl (tyC 0, 24, .inl (fun _ => 0))), (q2, .inl (tyC 0, 24, .inl (fun _ => 0))), (q3, .inl (tyC 0, 24, .inl (fun _ => 0))), (q4, .inl (tyC 0, 24, .inl (fun _ => 0))), (q5, .inl (tyC 0, 24, .inl (fun _ => 0))), (q6, .inl (tyC 0, 6, .inl (fun _ => 0))), (q7, .inl (tyC 0, 6, .inl (fun _ => 0)))] H := hP
  have hD : va_D A [(h0, .inr (2, [.ref q1, .ref q2, .ref q3, .ref q4, .ref q5, .ref q6, .ref q7, .int 0, .int 0, .int 0])), (q1, .inl (tyC 0, 24, .inl (fun _ => 0))), (q2, .inl (tyC 0, 24, .inl (fun _ => 0))), (q3, .inl (tyC 0, 24, .inl (fun _ => 0))), (q4, .inl (tyC 0, 24, .inl (fun _ => 0))), (q5, .inl (tyC 0, 24, .inl (fun _ => 0))), (q6, .inl (tyC 0, 6, .inl (fun _ => 0))), (q7, .inl (tyC 0, 6, .inl (fun _ => 0)))] := hD
  refine lv_aload_n hx hb dX3_init_60 rfl (lv_at hl 0 rfl) ?_
  refine lv_sipush (v := (255)) hx hb dX3_init_61 (by decide) ?_
  refine va_put (ci := 2) (v := .int (255)) (C := RX3) (T := TX3) (N := 10) (ty := .int) hx hb hts (dlay_in (ci := 2) rfl) tyX3 tyX3_ok nmX3 hown hK hP hD hS 0 rfl rfl 9 (by decide) (hts (.fieldLink RX3 33 "GuardedCode$Program" "asked" "I") (in_dgw (by decide +kernel) rfl)) (fun _ h9 => h9) rfl (by decide +kernel) rfl rfl (Nat.le_of_ble_eq_true rfl) dX3_init_64 (fun H locs hP hD hS => ?_)
  have hP : va_P D vwCl [(h0, .inr (2, [.ref q1, .ref q2, .ref q3, .ref q4, .ref q5, .ref q6, .ref q7, .int 0, .int 0, .int (255)])), (q1, .inl (tyC 0, 24, .inl (fun _ => 0))), (q2, .inl (tyC 0, 24, .inl (fun _ => 0))), (q3, .inl (tyC 0, 24, .inl (fun _ => 0))), (q4, .inl (tyC 0, 24, .inl (fun _ => 0))), (q5, .inl (tyC 0, 24, .inl (fun _ => 0))), (q6, .inl (tyC 0, 6, .inl (fun _ => 0))), (q7, .inl (tyC 0, 6, .inl (fun _ => 0)))] H := hP
  have hD : va_D A [(h0, .inr (2, [.ref q1, .ref q2, .ref q3, .ref q4, .ref q5, .ref q6, .ref q7, .int 0, .int 0, .int (255)])), (q1, .inl (tyC 0, 24, .inl (fun _ => 0))), (q2, .inl (tyC 0, 24, .inl (fun _ => 0))), (q3, .inl (tyC 0, 24, .inl (fun _ => 0))), (q4, .inl (tyC 0, 24, .inl (fun _ => 0))), (q5, .inl (tyC 0, 24, .inl (fun _ => 0))), (q6, .inl (tyC 0, 6, .inl (fun _ => 0))), (q7, .inl (tyC 0, 6, .inl (fun _ => 0)))] := hD
  exact W.vret hx hb hr (fun t ht hW => ⟨⟨(), rfl, trivial, q1, q2, q3, q4, q5, q6, q7, by rw [ht]; exact hP, hD⟩, hS.F ht⟩) hS.2.2 dX3_init_67 B.notSynchronized
set_option maxHeartbeats 4000000 in
theorem c_i4 (l : Launch) (h0 sz : Nat) : Met l yX4_init (jws yX4_init cX4_init 1 none) { frames := 1, cells := 1, slots := 40, locals := 12 } (va_Pc [.ref h0] (fun U => U.heap.size = sz ∧ va_P D vwCl [(h0, .inr (3, [.null, .int 0, .int 0]))] U.heap ∧ va_K D vwCl (dtys tyC) U ∧ va_D (fun _ => True) [(h0, .inr (3, [.null, .int 0, .int 0]))])) (va_Qv (fun _ : Unit => True) (fun _ t => ∃ q1 : Nat, va_P D vwCl [(h0, .inr (3, [.ref q1, .int 0, .int (-4)])), (q1, .inl (tyC 0, 40, .inl (fun _ => 0)))] t.heap ∧ va_D (va_A [(h0, .inr (3, [.null, .int 0, .int 0]))] sz) [(h0, .inr (3, [.ref q1, .int 0, .int (-4)])), (q1, .inl (tyC 0, 40, .inl (fun _ => 0)))]) (va_A [(h0, .inr (3, [.null, .int 0, .int 0]))] sz)) 1 40 (va_A [(h0, .inr (3, [.null, .int 0, .int 0]))] sz) := by
  refine Met.ofW (cc := cX4_init) (maxL := 1) (ret := none) (by decide +kernel) rfl ?_
  intro p e s m args below meth c s₁ B hml hv
  obtain ⟨rfl, hsz, hP, hK, hD0⟩ := hv
  have hx := B.exec
  have hb := B.bytes
  have hr := B.returns
  have hts0 := atoms_spec (ws := jws yX4_init cX4_init 1 none) B.pre
  have hts : ∀ w ∈ dgw, w.before #[Value.ref h0] s = true := fun w hw => hts0 w (List.mem_cons_of_mem _ hw)
  have hown : s.vm.findClass RX4 = some m.cls := findClass_of_methodNamed B.named
  have hin : meth.name = "<init>" := (name_of_methodNamed B.named B.method).1
  subst hsz
  have hD := hD0.self (sz := s.heap.size)
  generalize hAe : va_A [(h0, .inr (3, [.null, .int 0, .int 0]))] s.heap.size = A at hD ⊢
  have hA : ∀ q : Nat, s.heap.size ≤ q → A q := fun q h => by rw [← hAe]; exact Or.inr h
  have hS : va_S A s.heap s.heap [] := va_S.rf
  have hP : va_P D vwCl [(h0, .inr (3, [.null, .int 0, .int 0]))] s.heap := hP
  have hl := lv_entry ([.ref h0]) (n := 1) (Nat.le_of_ble_eq_true rfl)
  rw [lg_entry_eq]
  generalize (lg_sl ([.ref h0]) ++ List.replicate (1 - (lg_sl ([.ref h0])).length) Slot.unset).toArray = ls at hl ⊢
  have hl : lv_has ls 1 [(0, .ref h0)] := hl
  refine lv_aload_n hx hb dX4_init_0 rfl (lv_at hl 0 rfl) ?_
  refine W.objInit hx hb hown (hts (.methodLink RX4 3 objectInit) (in_dgw (by decide +kernel) rfl)) (hts _ jw_oi) (hts _ jw_oc) rfl (by rw [hml]; exact hl.1) rfl dX4_init_1 (Nat.le_of_ble_eq_true rfl) (Nat.le_of_ble_eq_true rfl) ?_
  refine W.eq (g2 := F0 m 4 ls []) rfl ?_
  refine lv_aload_n hx hb dX4_init_4 rfl (lv_at hl 0 rfl) ?_
  refine lv_bipush (v := 40) hx hb dX4_init_5 (by decide) ?_
  refine va_newa (atype := .int) (ty := .int) (a0 := (40, .inl (fun _ => 0))) (n := 40) (N' := 40) hx hb (hts _ jw_ai) rfl hK hP hD hS hA (fun _ => rfl) (by decide) (by decide) (by decide) (Nat.le_of_ble_eq_true rfl) (Nat.le_of_ble_eq_true rfl) dX4_init_7 (fun q1 cA H hK2 hP hD hS => ?_)
  obtain rfl := ty_int hK2
  refine W.widen (k := 1) (n := 40) (by omega) (by omega) ?_
  have hP : va_P D vwCl [(h0, .inr (3, [.null, .int 0, .int 0])), (q1, .inl (tyC 0, 40, .inl (fun _ => 0)))] H := hP
  have hD : va_D A [(h0, .inr (3, [.null, .int 0, .int 0])), (q1, .inl (tyC 0, 40, .inl (fun _ => 0)))] := hD
  refine va_putF (ci := 3) (v := .ref q1) (C := RX4) (T := TX4) (N := 3) (ty := .array .int) hx hb hts (dlay_in (ci := 3) rfl) tyX4 tyX4_ok nmX4 hown hK hP hD hS 0 rfl rfl 0 (by decide) (hts (.fieldLink RX4 9 "GuardedCode$Sheet" "cells" "[I") (in_dgw (by decide +kernel) rfl)) (fun _ h9 => h9) rfl hin rfl (by decide +kernel) rfl rfl (Nat.le_of_ble_eq_true rfl) dX4_init_9 (fun H locs hP hD hS => ?_)
  have hP : va_P D vwCl [(h0, .inr (3, [.ref q1, .int 0, .int 0])), (q1, .inl (tyC 0, 40, .inl (fun _ => 0)))] H := hP
  have hD : va_D A [(h0, .inr (3, [.ref q1, .int 0, .int 0])), (q1, .inl (tyC 0, 40, .inl (fun _ => 0)))] := hD
  refine lv_aload_n hx hb dX4_init_12 rfl (lv_at hl 0 rfl) ?_
  refine lv_bipush (v := (-4)) hx hb dX4_init_13 (by decide) ?_
  refine va_put (ci := 3) (v := .int (-4)) (C := RX4) (T := TX4) (N := 3) (ty := .int) hx hb hts (dlay_in (ci := 3) rfl) tyX4 tyX4_ok nmX4 hown hK hP hD hS 0 rfl rfl 2 (by decide) (hts (.fieldLink RX4 15 "GuardedCode$Sheet" "length" "I") (in_dgw (by decide +kernel) rfl)) (fun _ h9 => h9) rfl (by decide +kernel) rfl rfl (Nat.le_of_ble_eq_true rfl) dX4_init_15 (fun H locs hP hD hS => ?_)
  have hP : va_P D vwCl [(h0, .inr (3, [.ref q1, .int 0, .int (-4)])), (q1, .inl (tyC 0, 40, .inl (fun _ => 0)))] H := hP
  have hD : va_D A [(h0, .inr (3, [.ref q1, .int 0, .int (-4)])), (q1, .inl (tyC 0, 40, .inl (fun _ => 0)))] := hD
  exact W.vret hx hb hr (fun t ht hW => ⟨⟨(), rfl, trivial, q1, by rw [ht]; exact hP, hD⟩, hS.F ht⟩) hS.2.2 dX4_init_18 B.notSynchronized
end INITS

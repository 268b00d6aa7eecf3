theorem jg_il : GoodIn dgw (wsV RJ0 492 RJ0 yJ0_isLatin1_aae02 (jws yJ0_isLatin1_aae02 cJ0_isLatin1_aae02 1 (some .boolean))) := by
  intro w hw
  rcases List.mem_append.mp hw with h1 | h1
  · have : w ∈ dgw := by
      simp only [List.mem_cons, List.not_mem_nil, or_false] at h1
      rcases h1 with rfl | rfl | rfl | rfl
      · exact in_dgw (by decide +kernel) rfl
      · exact in_dgw (by decide +kernel) rfl
      · exact in_dgw (by decide +kernel) rfl
      · exact in_dgw (by decide +kernel) rfl
    exact ⟨this, dgw_good this⟩
  · exact jgood (in_dgw (by decide +kernel) rfl) w h1
theorem jg_c3 : GoodIn dgw (va_wsS RJ0 1059 yJ3_checkIndex_8e157 (jws yJ3_checkIndex_8e157 cJ3_checkIndex_8e157 3 (some .int))) := by
  intro w hw
  rcases List.mem_append.mp hw with h1 | h1
  · have : w ∈ dgw := by
      simp only [List.mem_cons, List.not_mem_nil, or_false] at h1
      rcases h1 with rfl | rfl | rfl
      · exact in_dgw (by decide +kernel) rfl
      · exact in_dgw (by decide +kernel) rfl
      · exact in_dgw (by decide +kernel) rfl
    exact ⟨this, dgw_good this⟩
  · exact jgood (in_dgw (by decide +kernel) rfl) w h1
theorem jg_c0 : GoodIn dgw (va_wsS RJ1 9 yJ0_checkIndex_df160 (jws yJ0_checkIndex_df160 cJ0_checkIndex_df160 2 none)) := by
  intro w hw
  rcases List.mem_append.mp hw with h1 | h1
  · have : w ∈ dgw := by
      simp only [List.mem_cons, List.not_mem_nil, or_false] at h1
      rcases h1 with rfl | rfl | rfl
      · exact in_dgw (by decide +kernel) rfl
      · exact in_dgw (by decide +kernel) rfl
      · exact in_dgw (by decide +kernel) rfl
    exact ⟨this, dgw_good this⟩
  · exact jgood (in_dgw (by decide +kernel) rfl) w h1
theorem jg_l1 : GoodIn dgw (va_wsS RJ0 495 yJ1_charAt_3b067 (jws yJ1_charAt_3b067 cJ1_charAt_3b067 2 (some .char))) := by
  intro w hw
  rcases List.mem_append.mp hw with h1 | h1
  · have : w ∈ dgw := by
      simp only [List.mem_cons, List.not_mem_nil, or_false] at h1
      rcases h1 with rfl | rfl | rfl
      · exact in_dgw (by decide +kernel) rfl
      · exact in_dgw (by decide +kernel) rfl
      · exact in_dgw (by decide +kernel) rfl
    exact ⟨this, dgw_good this⟩
  · exact jgood (in_dgw (by decide +kernel) rfl) w h1
theorem jw_si : Cond.fieldLink RJ0 1053 "jdk/internal/util/Preconditions" "SIOOBE_FORMATTER" "Ljava/util/function/BiFunction;" ∈ dgw := in_dgw (by decide +kernel) rfl
theorem jch : ∀ k : Nat, k < 6 → ∀ j : Nat, j < dslen.getD k 0 → ((((dstr.getD k []).getD j 0 &&& nI 255).toUInt32 % 65536).toInt32 = (dstr.getD k []).getD j 0 ∧ narrow .char (.int ((dstr.getD k []).getD j 0)) = .int ((dstr.getD k []).getD j 0)) := by decide
theorem jle : ∀ k : Nat, k < 6 → dslen.getD k 0 ≤ 3 := by decide
section STR3
variable {l : Launch} {D : va_G} {tyC : Nat → ClassId} {ad adV : Nat → Nat} {Lx : Nat} {xs : Nat → Int32}
theorem c_isLatin1 {σ : dS} {k : Nat} (hk : k < 6) (sz : Nat) : Met l yJ0_isLatin1_aae02 (jws yJ0_isLatin1_aae02 cJ0_isLatin1_aae02 1 (some .boolean)) { frames := 0, cells := 0, slots := 0, locals := 0 } (va_Pc [.ref (ad (dN + 1 + k))] (dPre D tyC ad adV Lx xs σ sz)) (dQ D tyC ad sz (some (.int 1)) σ) 0 0 (dA ad sz) := by
  refine Met.ofW (cc := cJ0_isLatin1_aae02) (maxL := 1) (ret := (some .boolean)) (by decide +kernel) rfl ?_
  intro p e s m args below meth c s₁ B hml hv
  obtain ⟨rfl, hsz, hP, hK, hD0, hXt, hscr⟩ := hv
  have hx := B.exec
  have hb := B.bytes
  have hr := B.returns
  have hts0 := atoms_spec (ws := jws yJ0_isLatin1_aae02 cJ0_isLatin1_aae02 1 (some .boolean)) B.pre
  have hts : ∀ w ∈ dgw, w.before #[Value.ref (ad (dN + 1 + k))] s = true := fun w hw => hts0 w (List.mem_cons_of_mem _ hw)
  have hown : s.vm.findClass RJ0 = some m.cls := findClass_of_methodNamed B.named
  subst hsz
  have hS : va_S (dA ad s.heap.size) s.heap s.heap [] := va_S.rf
  have hA : ∀ q, s.heap.size ≤ q → dA ad s.heap.size q := fun q hq => Or.inr hq
  have hDA : va_D (dA ad s.heap.size) (dws tyC ad σ) := ⟨hD0.1, fun k q hk => by
    obtain ⟨h1, rfl⟩ := dws_out hk
    exact Or.inl ⟨k, h1, rfl⟩⟩
  have h : dHo D tyC ad Lx xs (dA ad s.heap.size) s σ s.heap [] := ⟨hP, hDA, hS, hscr⟩
  have hl := lv_entry ([Value.ref (ad (dN + 1 + k))]) (n := 1) (Nat.le_of_ble_eq_true rfl)
  rw [lg_entry_eq]
  generalize (lg_sl ([Value.ref (ad (dN + 1 + k))]) ++ List.replicate (1 - (lg_sl ([Value.ref (ad (dN + 1 + k))])).length) Slot.unset).toArray = ls at hl ⊢
  have hl : lv_has ls 1 [(0, Value.ref (ad (dN + 1 + k)))] := hl
  have hE := (hXt.2.2.1.1).1 k hk
  refine va_gets hx hb hXt.2.2.2.1 hS hown (hts _ jw_cs) (fun _ h9 => h9) dJ0_isLatin1_aae02_0 ?_
  refine lv_if_eq (tgt := 17) hx hb dJ0_isLatin1_aae02_3 (by decide) (fun c1 => absurd c1 (by decide)) (fun _ => ?_)
  refine lv_aload_n hx hb dJ0_isLatin1_aae02_6 rfl (lv_at hl 0 rfl) ?_
  refine vk_getf hx hb hE.2.1 hS hown (hts _ jw_cf) (fun _ h9 => h9) dJ0_isLatin1_aae02_7 ?_
  refine lv_if_ne (tgt := 17) hx hb dJ0_isLatin1_aae02_10 (by decide) (fun c1 => absurd rfl c1) (fun _ => ?_)
  refine lv_iconst (v := 1) hx hb dJ0_isLatin1_aae02_13 (by decide) ?_
  refine lv_goto (tgt := 18) hx hb dJ0_isLatin1_aae02_14 (by decide) ?_
  exact W.zret hx hb hr (by decide) (fun t ht hW => ⟨⟨1, (), rfl, rfl, by show va_P D vwCl (dws tyC ad σ) t.heap; rw [ht]; exact hP⟩, hS.F ht⟩) hS.2.2 dJ0_isLatin1_aae02_18 B.notSynchronized
theorem c_chk3N {σ : dS} {j n : Nat} (hj : j < n) (hn : n ≤ 3) (sz : Nat) : Met l yJ3_checkIndex_8e157 (jws yJ3_checkIndex_8e157 cJ3_checkIndex_8e157 3 (some .int)) { frames := 0, cells := 0, slots := 0, locals := 0 } (va_Pc [.int (nI j), .int (nI n), Value.null] (dPre D tyC ad adV Lx xs σ sz)) (dQ D tyC ad sz (some (.int (nI j))) σ) 0 0 (dA ad sz) := by
  refine Met.ofW (cc := cJ3_checkIndex_8e157) (maxL := 3) (ret := (some .int)) (by decide +kernel) rfl ?_
  intro p e s m args below meth c s₁ B hml hv
  obtain ⟨rfl, hsz, hP, hK, hD0, hXt, hscr⟩ := hv
  have hx := B.exec
  have hb := B.bytes
  have hr := B.returns
  have hts0 := atoms_spec (ws := jws yJ3_checkIndex_8e157 cJ3_checkIndex_8e157 3 (some .int)) B.pre
  have hts : ∀ w ∈ dgw, w.before #[Value.int (nI j), Value.int (nI n), Value.null] s = true := fun w hw => hts0 w (List.mem_cons_of_mem _ hw)
  have hown : s.vm.findClass RJ3 = some m.cls := findClass_of_methodNamed B.named
  subst hsz
  have hS : va_S (dA ad s.heap.size) s.heap s.heap [] := va_S.rf
  have hA : ∀ q, s.heap.size ≤ q → dA ad s.heap.size q := fun q hq => Or.inr hq
  have hDA : va_D (dA ad s.heap.size) (dws tyC ad σ) := ⟨hD0.1, fun k q hk => by
    obtain ⟨h1, rfl⟩ := dws_out hk
    exact Or.inl ⟨k, h1, rfl⟩⟩
  have h : dHo D tyC ad Lx xs (dA ad s.heap.size) s σ s.heap [] := ⟨hP, hDA, hS, hscr⟩
  have hl := lv_entry ([Value.int (nI j), Value.int (nI n), Value.null]) (n := 3) (Nat.le_of_ble_eq_true rfl)
  rw [lg_entry_eq]
  generalize (lg_sl ([Value.int (nI j), Value.int (nI n), Value.null]) ++ List.replicate (3 - (lg_sl ([Value.int (nI j), Value.int (nI n), Value.null])).length) Slot.unset).toArray = ls at hl ⊢
  have hl : lv_has ls 3 [(0, Value.int (nI j)), (1, Value.int (nI n)), (2, Value.null)] := hl
  refine lv_iload_n hx hb dJ3_checkIndex_8e157_0 rfl (lv_at hl 0 rfl) ?_
  refine lv_if_lt (tgt := 9) hx hb dJ3_checkIndex_8e157_1 (by decide) (fun c1 => absurd c1 (nI_pos (by omega))) (fun _ => ?_)
  refine lv_iload_n hx hb dJ3_checkIndex_8e157_4 rfl (lv_at hl 0 rfl) ?_
  refine lv_iload_n hx hb dJ3_checkIndex_8e157_5 rfl (lv_at hl 1 rfl) ?_
  refine lv_icmp_lt (tgt := 16) hx hb dJ3_checkIndex_8e157_6 (by decide) (fun _ => ?_) (fun c1 => absurd (nI_lt hj (by omega)) c1)
  refine lv_iload_n hx hb dJ3_checkIndex_8e157_16 rfl (lv_at hl 0 rfl) ?_
  exact W.iret hx hb hr (fun t ht hW => ⟨⟨nI j, (), rfl, rfl, by show va_P D vwCl (dws tyC ad σ) t.heap; rw [ht]; exact hP⟩, hS.F ht⟩) hS.2.2 dJ3_checkIndex_8e157_17 B.notSynchronized
theorem c_chk3R {σ : dS} (q : Nat) {j n : Nat} (hj : j < n) (hn : n ≤ 3) (sz : Nat) : Met l yJ3_checkIndex_8e157 (jws yJ3_checkIndex_8e157 cJ3_checkIndex_8e157 3 (some .int)) { frames := 0, cells := 0, slots := 0, locals := 0 } (va_Pc [.int (nI j), .int (nI n), Value.ref q] (dPre D tyC ad adV Lx xs σ sz)) (dQ D tyC ad sz (some (.int (nI j))) σ) 0 0 (dA ad sz) := by
  refine Met.ofW (cc := cJ3_checkIndex_8e157) (maxL := 3) (ret := (some .int)) (by decide +kernel) rfl ?_
  intro p e s m args below meth c s₁ B hml hv
  obtain ⟨rfl, hsz, hP, hK, hD0, hXt, hscr⟩ := hv
  have hx := B.exec
  have hb := B.bytes
  have hr := B.returns
  have hts0 := atoms_spec (ws := jws yJ3_checkIndex_8e157 cJ3_checkIndex_8e157 3 (some .int)) B.pre
  have hts : ∀ w ∈ dgw, w.before #[Value.int (nI j), Value.int (nI n), Value.ref q] s = true := fun w hw => hts0 w (List.mem_cons_of_mem _ hw)
  have hown : s.vm.findClass RJ3 = some m.cls := findClass_of_methodNamed B.named
  subst hsz
  have hS : va_S (dA ad s.heap.size) s.heap s.heap [] := va_S.rf
  have hA : ∀ q, s.heap.size ≤ q → dA ad s.heap.size q := fun q hq => Or.inr hq
  have hDA : va_D (dA ad s.heap.size) (dws tyC ad σ) := ⟨hD0.1, fun k q hk => by
    obtain ⟨h1, rfl⟩ := dws_out hk
    exact Or.inl ⟨k, h1, rfl⟩⟩
  have h : dHo D tyC ad Lx xs (dA ad s.heap.size) s σ s.heap [] := ⟨hP, hDA, hS, hscr⟩
  have hl := lv_entry ([Value.int (nI j), Value.int (nI n), Value.ref q]) (n := 3) (Nat.le_of_ble_eq_true rfl)
  rw [lg_entry_eq]
  generalize (lg_sl ([Value.int (nI j), Value.int (nI n), Value.ref q]) ++ List.replicate (3 - (lg_sl ([Value.int (nI j), Value.int (nI n), Value.ref q])).length) Slot.unset).toArray = ls at hl ⊢
  have hl : lv_has ls 3 [(0, Value.int (nI j)), (1, Value.int (nI n)), (2, Value.ref q)] := hl
  refine lv_iload_n hx hb dJ3_checkIndex_8e157_0 rfl (lv_at hl 0 rfl) ?_
  refine lv_if_lt (tgt := 9) hx hb dJ3_checkIndex_8e157_1 (by decide) (fun c1 => absurd c1 (nI_pos (by omega))) (fun _ => ?_)
  refine lv_iload_n hx hb dJ3_checkIndex_8e157_4 rfl (lv_at hl 0 rfl) ?_
  refine lv_iload_n hx hb dJ3_checkIndex_8e157_5 rfl (lv_at hl 1 rfl) ?_
  refine lv_icmp_lt (tgt := 16) hx hb dJ3_checkIndex_8e157_6 (by decide) (fun _ => ?_) (fun c1 => absurd (nI_lt hj (by omega)) c1)
  refine lv_iload_n hx hb dJ3_checkIndex_8e157_16 rfl (lv_at hl 0 rfl) ?_
  exact W.iret hx hb hr (fun t ht hW => ⟨⟨nI j, (), rfl, rfl, by show va_P D vwCl (dws tyC ad σ) t.heap; rw [ht]; exact hP⟩, hS.F ht⟩) hS.2.2 dJ3_checkIndex_8e157_17 B.notSynchronized
theorem c_chk0 {σ : dS} {j n : Nat} (hj : j < n) (hn : n ≤ 3) (sz : Nat) : Met l yJ0_checkIndex_df160 (jws yJ0_checkIndex_df160 cJ0_checkIndex_df160 2 none) { frames := 1, cells := 0, slots := 0, locals := 22 } (va_Pc [.int (nI j), .int (nI n)] (dPre D tyC ad adV Lx xs σ sz)) (dQ D tyC ad sz (none) σ) 0 0 (dA ad sz) := by
  refine Met.ofW (cc := cJ0_checkIndex_df160) (maxL := 2) (ret := none) (by decide +kernel) rfl ?_
  intro p e s m args below meth c s₁ B hml hv
  obtain ⟨rfl, hsz, hP, hK, hD0, hXt, hscr⟩ := hv
  have hx := B.exec
  have hb := B.bytes
  have hr := B.returns
  have hts0 := atoms_spec (ws := jws yJ0_checkIndex_df160 cJ0_checkIndex_df160 2 none) B.pre
  have hts : ∀ w ∈ dgw, w.before #[Value.int (nI j), Value.int (nI n)] s = true := fun w hw => hts0 w (List.mem_cons_of_mem _ hw)
  have hown : s.vm.findClass RJ0 = some m.cls := findClass_of_methodNamed B.named
  subst hsz
  have hS : va_S (dA ad s.heap.size) s.heap s.heap [] := va_S.rf
  have hA : ∀ q, s.heap.size ≤ q → dA ad s.heap.size q := fun q hq => Or.inr hq
  have hDA : va_D (dA ad s.heap.size) (dws tyC ad σ) := ⟨hD0.1, fun k q hk => by
    obtain ⟨h1, rfl⟩ := dws_out hk
    exact Or.inl ⟨k, h1, rfl⟩⟩
  have h : dHo D tyC ad Lx xs (dA ad s.heap.size) s σ s.heap [] := ⟨hP, hDA, hS, hscr⟩
  have hl := lv_entry ([Value.int (nI j), Value.int (nI n)]) (n := 2) (Nat.le_of_ble_eq_true rfl)
  rw [lg_entry_eq]
  generalize (lg_sl ([Value.int (nI j), Value.int (nI n)]) ++ List.replicate (2 - (lg_sl ([Value.int (nI j), Value.int (nI n)])).length) Slot.unset).toArray = ls at hl ⊢
  have hl : lv_has ls 2 [(0, Value.int (nI j)), (1, Value.int (nI n))] := hl
  refine lv_iload_n hx hb dJ0_checkIndex_df160_0 rfl (lv_at hl 0 rfl) ?_
  refine lv_iload_n hx hb dJ0_checkIndex_df160_1 rfl (lv_at hl 1 rfl) ?_
  rcases hXt.2.2.2.2 with hZ | ⟨q, hZ⟩
  · refine va_gets hx hb hZ hS hown (hts _ jw_si) (fun _ h9 => h9) dJ0_checkIndex_df160_2 ?_
    refine djoin (r := some (.int (nI j))) (σ1 := σ) (va_runS (As := [.int (nI j), .int (nI n), .null]) (rest := []) ⟨hx, hb, hml, hown, hts⟩ (c_chk3N hj hn s.heap.size) (va_cwS 3 hts jg_c3 rfl rfl rfl (by decide +kernel) ⟨Nat.le_of_ble_eq_true rfl, Nat.le_of_ble_eq_true rfl⟩) ⟨dblind, fun U hU hW => ⟨rfl, dpre hK hXt hA h hU hW⟩⟩ rfl rfl hl.1 rfl (lv_room (Nat.le_of_ble_eq_true rfl)) dJ0_checkIndex_df160_5 ⟨Nat.le_of_ble_eq_true rfl, Nat.le_of_ble_eq_true rfl⟩) hA h rfl (fun H1 locs1 h1 => ?_)
    show W _ _ _ _ _ _ _ _ _ _ _ _ _ _ _ (F0 m 8 ls [.int (nI j)])
    refine lv_pop hx hb dJ0_checkIndex_df160_8 rfl ?_
    exact W.vret hx hb hr (fun t ht hW => ⟨⟨(), rfl, trivial, by show va_P D vwCl (dws tyC ad σ) t.heap; rw [ht]; exact h1.1⟩, h1.2.2.1.F ht⟩) h1.2.2.1.2.2 dJ0_checkIndex_df160_9 B.notSynchronized
  · refine va_gets hx hb hZ hS hown (hts _ jw_si) (fun _ h9 => h9) dJ0_checkIndex_df160_2 ?_
    refine djoin (r := some (.int (nI j))) (σ1 := σ) (va_runS (As := [.int (nI j), .int (nI n), .ref q]) (rest := []) ⟨hx, hb, hml, hown, hts⟩ (c_chk3R q hj hn s.heap.size) (va_cwS 3 hts jg_c3 rfl rfl rfl (by decide +kernel) ⟨Nat.le_of_ble_eq_true rfl, Nat.le_of_ble_eq_true rfl⟩) ⟨dblind, fun U hU hW => ⟨rfl, dpre hK hXt hA h hU hW⟩⟩ rfl rfl hl.1 rfl (lv_room (Nat.le_of_ble_eq_true rfl)) dJ0_checkIndex_df160_5 ⟨Nat.le_of_ble_eq_true rfl, Nat.le_of_ble_eq_true rfl⟩) hA h rfl (fun H1 locs1 h1 => ?_)
    show W _ _ _ _ _ _ _ _ _ _ _ _ _ _ _ (F0 m 8 ls [.int (nI j)])
    refine lv_pop hx hb dJ0_checkIndex_df160_8 rfl ?_
    exact W.vret hx hb hr (fun t ht hW => ⟨⟨(), rfl, trivial, by show va_P D vwCl (dws tyC ad σ) t.heap; rw [ht]; exact h1.1⟩, h1.2.2.1.F ht⟩) h1.2.2.1.2.2 dJ0_checkIndex_df160_9 B.notSynchronized
theorem c_l1 {σ : dS} {k j : Nat} (hk : k < 6) (hj : j < dslen.getD k 0) (sz : Nat) : Met l yJ1_charAt_3b067 (jws yJ1_charAt_3b067 cJ1_charAt_3b067 2 (some .char)) { frames := 2, cells := 0, slots := 0, locals := 43 } (va_Pc [.ref (adV k), .int (nI j)] (dPre D tyC ad adV Lx xs σ sz)) (dQ D tyC ad sz (some (.int ((dstr.getD k []).getD j 0))) σ) 0 0 (dA ad sz) := by
  refine Met.ofW (cc := cJ1_charAt_3b067) (maxL := 2) (ret := (some .char)) (by decide +kernel) rfl ?_
  intro p e s m args below meth c s₁ B hml hv
  obtain ⟨rfl, hsz, hP, hK, hD0, hXt, hscr⟩ := hv
  have hx := B.exec
  have hb := B.bytes
  have hr := B.returns
  have hts0 := atoms_spec (ws := jws yJ1_charAt_3b067 cJ1_charAt_3b067 2 (some .char)) B.pre
  have hts : ∀ w ∈ dgw, w.before #[Value.ref (adV k), Value.int (nI j)] s = true := fun w hw => hts0 w (List.mem_cons_of_mem _ hw)
  have hown : s.vm.findClass RJ1 = some m.cls := findClass_of_methodNamed B.named
  subst hsz
  have hS : va_S (dA ad s.heap.size) s.heap s.heap [] := va_S.rf
  have hA : ∀ q, s.heap.size ≤ q → dA ad s.heap.size q := fun q hq => Or.inr hq
  have hDA : va_D (dA ad s.heap.size) (dws tyC ad σ) := ⟨hD0.1, fun k q hk => by
    obtain ⟨h1, rfl⟩ := dws_out hk
    exact Or.inl ⟨k, h1, rfl⟩⟩
  have h : dHo D tyC ad Lx xs (dA ad s.heap.size) s σ s.heap [] := ⟨hP, hDA, hS, hscr⟩
  have hl := lv_entry ([Value.ref (adV k), Value.int (nI j)]) (n := 2) (Nat.le_of_ble_eq_true rfl)
  rw [lg_entry_eq]
  generalize (lg_sl ([Value.ref (adV k), Value.int (nI j)]) ++ List.replicate (2 - (lg_sl ([Value.ref (adV k), Value.int (nI j)])).length) Slot.unset).toArray = ls at hl ⊢
  have hl : lv_has ls 2 [(0, Value.ref (adV k)), (1, Value.int (nI j))] := hl
  have hE := (hXt.2.2.1.1).1 k hk
  have hn := jle k hk
  obtain ⟨hc1, hc2⟩ := jch k hk j hj
  refine lv_iload_n hx hb dJ1_charAt_3b067_0 rfl (lv_at hl 1 rfl) ?_
  refine lv_aload_n hx hb dJ1_charAt_3b067_1 rfl (lv_at hl 0 rfl) ?_
  refine va_tlen (v := nI (dslen.getD k 0)) hx hb hE.2.2.2 hS rfl dJ1_charAt_3b067_2 ?_
  refine djoin (r := none) (σ1 := σ) (va_runS (As := [.int (nI j), .int (nI (dslen.getD k 0))]) (rest := []) ⟨hx, hb, hml, hown, hts⟩ (c_chk0 hj hn s.heap.size) (va_cwS 2 hts jg_c0 rfl rfl rfl (by decide +kernel) ⟨Nat.le_of_ble_eq_true rfl, Nat.le_of_ble_eq_true rfl⟩) ⟨dblind, fun U hU hW => ⟨rfl, dpre hK hXt hA h hU hW⟩⟩ rfl rfl hl.1 rfl (lv_room (Nat.le_of_ble_eq_true rfl)) dJ1_charAt_3b067_3 ⟨Nat.le_of_ble_eq_true rfl, Nat.le_of_ble_eq_true rfl⟩) hA h rfl (fun H1 locs1 h1 => ?_)
  show W _ _ _ _ _ _ _ _ _ _ _ _ _ _ _ (F0 m 6 ls [])
  refine lv_aload_n hx hb dJ1_charAt_3b067_6 rfl (lv_at hl 0 rfl) ?_
  refine lv_iload_n hx hb dJ1_charAt_3b067_7 rfl (lv_at hl 1 rfl) ?_
  refine va_tb (v := .int ((dstr.getD k []).getD j 0)) hx hb hE.2.2.2 h1.2.2.1 (vp_in_nI hj (by omega)) (by rw [nI_clamp (by omega)]) dJ1_charAt_3b067_8 ?_
  refine lv_sipush (v := nI 255) hx hb dJ1_charAt_3b067_9 (by decide) ?_
  refine lv_iand hx hb dJ1_charAt_3b067_12 ?_
  refine lv_i2c hx hb dJ1_charAt_3b067_13 hc1 ?_
  exact W.zret hx hb hr hc2 (fun t ht hW => ⟨⟨(dstr.getD k []).getD j 0, (), rfl, rfl, by show va_P D vwCl (dws tyC ad σ) t.heap; rw [ht]; exact h1.1⟩, h1.2.2.1.F ht⟩) h1.2.2.1.2.2 dJ1_charAt_3b067_14 B.notSynchronized
theorem c_charAt {σ : dS} {k j : Nat} (hk : k < 6) (hj : j < dslen.getD k 0) (sz : Nat) : Met l yJ0_charAt_5068e (jws yJ0_charAt_5068e cJ0_charAt_5068e 2 (some .char)) { frames := 3, cells := 0, slots := 0, locals := 70 } (va_Pc [.ref (ad (dN + 1 + k)), .int (nI j)] (dPre D tyC ad adV Lx xs σ sz)) (dQ D tyC ad sz (some (.int ((dstr.getD k []).getD j 0))) σ) 0 0 (dA ad sz) := by
  refine Met.ofW (cc := cJ0_charAt_5068e) (maxL := 2) (ret := (some .char)) (by decide +kernel) rfl ?_
  intro p e s m args below meth c s₁ B hml hv
  obtain ⟨rfl, hsz, hP, hK, hD0, hXt, hscr⟩ := hv
  have hx := B.exec
  have hb := B.bytes
  have hr := B.returns
  have hts0 := atoms_spec (ws := jws yJ0_charAt_5068e cJ0_charAt_5068e 2 (some .char)) B.pre
  have hts : ∀ w ∈ dgw, w.before #[Value.ref (ad (dN + 1 + k)), Value.int (nI j)] s = true := fun w hw => hts0 w (List.mem_cons_of_mem _ hw)
  have hown : s.vm.findClass RJ0 = some m.cls := findClass_of_methodNamed B.named
  subst hsz
  have hS : va_S (dA ad s.heap.size) s.heap s.heap [] := va_S.rf
  have hA : ∀ q, s.heap.size ≤ q → dA ad s.heap.size q := fun q hq => Or.inr hq
  have hDA : va_D (dA ad s.heap.size) (dws tyC ad σ) := ⟨hD0.1, fun k q hk => by
    obtain ⟨h1, rfl⟩ := dws_out hk
    exact Or.inl ⟨k, h1, rfl⟩⟩
  have h : dHo D tyC ad Lx xs (dA ad s.heap.size) s σ s.heap [] := ⟨hP, hDA, hS, hscr⟩
  have hl := lv_entry ([Value.ref (ad (dN + 1 + k)), Value.int (nI j)]) (n := 2) (Nat.le_of_ble_eq_true rfl)
  rw [lg_entry_eq]
  generalize (lg_sl ([Value.ref (ad (dN + 1 + k)), Value.int (nI j)]) ++ List.replicate (2 - (lg_sl ([Value.ref (ad (dN + 1 + k)), Value.int (nI j)])).length) Slot.unset).toArray = ls at hl ⊢
  have hl : lv_has ls 2 [(0, Value.ref (ad (dN + 1 + k))), (1, Value.int (nI j))] := hl
  have hE := (hXt.2.2.1.1).1 k hk
  have hrv := vk_recv (i := k) hXt.2.2.1.1 hk hS
  obtain ⟨hc1, hc2⟩ := jch k hk j hj
  refine lv_aload_n hx hb dJ0_charAt_5068e_0 rfl (lv_at hl 0 rfl) ?_
  refine djoin (r := some (.int 1)) (σ1 := σ) (va_runV (As := []) (rest := []) (b := ad (dN + 1 + k)) (C := RJ0) ⟨hx, hb, hml, hown, hts⟩ (c_isLatin1 hk s.heap.size) (cwV 0 hts jg_il rfl rfl rfl (by decide +kernel) ⟨Nat.le_of_ble_eq_true rfl, Nat.le_of_ble_eq_true rfl⟩) ⟨dblind, hrv, fun U hU hW => ⟨rfl, dpre hK hXt hA h hU hW⟩⟩ rfl rfl hl.1 rfl (lv_room (Nat.le_of_ble_eq_true rfl)) dJ0_charAt_5068e_1 ⟨Nat.le_of_ble_eq_true rfl, Nat.le_of_ble_eq_true rfl⟩) hA h rfl (fun H1 locs1 h1 => ?_)
  show W _ _ _ _ _ _ _ _ _ _ _ _ _ _ _ (F0 m 4 ls [.int 1])
  refine lv_if_eq (tgt := 16) hx hb dJ0_charAt_5068e_4 (by decide) (fun c1 => absurd c1 (by decide)) (fun _ => ?_)
  refine lv_aload_n hx hb dJ0_charAt_5068e_7 rfl (lv_at hl 0 rfl) ?_
  refine vk_getf hx hb hE.2.2.1 h1.2.2.1 hown (hts _ jw_vf) (fun _ h9 => h9) dJ0_charAt_5068e_8 ?_
  refine lv_iload_n hx hb dJ0_charAt_5068e_11 rfl (lv_at hl 1 rfl) ?_
  refine djoin (r := some (.int ((dstr.getD k []).getD j 0))) (σ1 := σ) (va_runS (As := [.ref (adV k), .int (nI j)]) (rest := []) ⟨hx, hb, hml, hown, hts⟩ (c_l1 hk hj H1.size) (va_cwS 2 hts jg_l1 rfl rfl rfl (by decide +kernel) ⟨Nat.le_of_ble_eq_true rfl, Nat.le_of_ble_eq_true rfl⟩) ⟨dblind, fun U hU hW => ⟨rfl, dpre hK hXt hA h1 hU hW⟩⟩ rfl rfl hl.1 rfl (lv_room (Nat.le_of_ble_eq_true rfl)) dJ0_charAt_5068e_12 ⟨Nat.le_of_ble_eq_true rfl, Nat.le_of_ble_eq_true rfl⟩) hA h1 rfl (fun H2 locs2 h2 => ?_)
  show W _ _ _ _ _ _ _ _ _ _ _ _ _ _ _ (F0 m 15 ls [.int ((dstr.getD k []).getD j 0)])
  exact W.zret hx hb hr hc2 (fun t ht hW => ⟨⟨(dstr.getD k []).getD j 0, (), rfl, rfl, by show va_P D vwCl (dws tyC ad σ) t.heap; rw [ht]; exact h2.1⟩, h2.2.2.1.F ht⟩) h2.2.2.1.2.2 dJ0_charAt_5068e_15 B.notSynchronized
/-- the two texts' members -/
theorem hprim : ∀ M1, M1 < 2 → ∀ (as : List Value) (σ : dS) (r : Option Value), dprm M1 as = some r → dMetS l D tyC ad adV Lx xs M1 as σ r σ := by
  intro M1 h1 as σ r h
  unfold dprm at h
  split at h
  · rename_i q
    split at h
    · rename_i hq
      obtain ⟨t, ht, hr⟩ := Option.map_eq_some_iff.mp h
      cases hr
      have h6 : q - (dN + 1) < 6 := (List.getElem?_eq_some_iff.mp ht).1
      have hl : dslen.getD (q - (dN + 1)) 0 = t.length := by
        have : ∀ k : Nat, k < 6 → ∀ t, dstr[k]? = some t → dslen.getD k 0 = t.length := by decide
        exact this _ h6 t ht
      have e := fun sz => c_length (l := l) (D := D) (tyC := tyC) (ad := ad) (adV := adV) (Lx := Lx) (xs := xs) (σ := σ) h6 sz
      rw [hl, show dN + 1 + (q - (dN + 1)) = q by omega] at e
      exact e
    · cases h
  · rename_i q i
    split at h
    · rename_i hq
      obtain ⟨t, ht, hr⟩ := Option.bind_eq_some_iff.mp h
      split at hr
      · cases hr
      · rename_i hi
        cases hr
        have h6 : q - (dN + 1) < 6 := (List.getElem?_eq_some_iff.mp ht).1
        have hl : dslen.getD (q - (dN + 1)) 0 = t.length ∧ dstr.getD (q - (dN + 1)) [] = t := by
          have : ∀ k : Nat, k < 6 → ∀ t, dstr[k]? = some t → dslen.getD k 0 = t.length := by decide
          exact ⟨this _ h6 t ht, by rw [List.getD_eq_getElem?_getD, ht]; rfl⟩
        obtain ⟨j, hj, rfl⟩ := nI_of (x := i) (fun z => hi (Or.inl z))
        rw [nI_clamp hj] at hi ⊢
        have hjl : j < dslen.getD (q - (dN + 1)) 0 := by
          rw [hl.1]
          exact Nat.lt_of_not_le (fun z => hi (Or.inr z))
        have e := fun sz => c_charAt (l := l) (D := D) (tyC := tyC) (ad := ad) (adV := adV) (Lx := Lx) (xs := xs) (σ := σ) h6 hjl sz
        rw [hl.2, show dN + 1 + (q - (dN + 1)) = q by omega] at e
        exact e
    · cases h
  · cases h
end STR3

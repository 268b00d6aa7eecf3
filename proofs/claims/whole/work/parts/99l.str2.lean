theorem jw_len : Cond.code yJ0_length_8abf5 cJ0_length_8abf5 1 (some .int) ∈ dgw := in_dgw (by decide +kernel) rfl
theorem jw_vf : Cond.fieldLink RJ0 9 "java/lang/String" "value" "[B" ∈ dgw := in_dgw (by decide +kernel) rfl
theorem jg_len_coder : GoodIn dgw (wsV RJ0 335 RJ0 yJ0_coder_7d493 (jws yJ0_coder_7d493 cJ0_coder_7d493 1 (some .byte))) := by
  intro w hw
  rcases List.mem_append.mp hw with h1 | h1
  · have : w ∈ dgw := by
      simp only [List.mem_cons, List.not_mem_nil, or_false] at h1
      rcases h1 with rfl | rfl | rfl | rfl
      · exact in_dgw (by decide +kernel) rfl
      · exact in_dgw (by decide +kernel) rfl
      · exact in_dgw (by decide +kernel) rfl
      · exact in_dgw (by decide +kernel) rfl
    exact ⟨this, dgw_good this⟩
  · exact jgood jw_coder w h1
theorem jsh : ∀ k : Nat, k < 6 → nI (dslen.getD k 0) >>> ((0 : Int32) &&& 31) = nI (dslen.getD k 0) := by decide
section STR2
variable {l : Launch} {D : va_G} {tyC : Nat → ClassId} {ad adV : Nat → Nat} {Lx : Nat} {xs : Nat → Int32}
theorem c_length {σ : dS} {k : Nat} (hk : k < 6) (sz : Nat) : Met l yJ0_length_8abf5 (jws yJ0_length_8abf5 cJ0_length_8abf5 1 (some .int)) { frames := 1, cells := 0, slots := 0, locals := 30 } (va_Pc [.ref (ad (dN + 1 + k))] (dPre D tyC ad adV Lx xs σ sz)) (dQ D tyC ad sz (some (.int (nI (dslen.getD k 0)))) σ) 0 0 (dA ad sz) := by
  refine Met.ofW (cc := cJ0_length_8abf5) (maxL := 1) (ret := some .int) (by decide +kernel) rfl ?_
  intro p e s m args below meth c s₁ B hml hv
  obtain ⟨rfl, hsz, hP, hK, hD0, hXt, hscr⟩ := hv
  have hx := B.exec
  have hb := B.bytes
  have hr := B.returns
  have hts0 := atoms_spec (ws := jws yJ0_length_8abf5 cJ0_length_8abf5 1 (some .int)) B.pre
  have hts : ∀ w ∈ dgw, w.before #[Value.ref (ad (dN + 1 + k))] s = true := fun w hw => hts0 w (List.mem_cons_of_mem _ hw)
  have hown : s.vm.findClass RJ0 = some m.cls := findClass_of_methodNamed B.named
  subst hsz
  have hS : va_S (dA ad s.heap.size) s.heap s.heap [] := va_S.rf
  have hA : ∀ q, s.heap.size ≤ q → dA ad s.heap.size q := fun q hq => Or.inr hq
  have hDA : va_D (dA ad s.heap.size) (dws tyC ad σ) := ⟨hD0.1, fun k q hk => by
    obtain ⟨h1, rfl⟩ := dws_out hk
    exact Or.inl ⟨k, h1, rfl⟩⟩
  have h : dHo D tyC ad Lx xs (dA ad s.heap.size) s σ s.heap [] := ⟨hP, hDA, hS, hscr⟩
  have hE := (hXt.2.2.1.1).1 k hk
  have hrv := vk_recv (i := k) hXt.2.2.1.1 hk hS
  have hl := lv_entry ([.ref (ad (dN + 1 + k))]) (n := 1) (Nat.le_of_ble_eq_true rfl)
  rw [lg_entry_eq]
  generalize (lg_sl ([.ref (ad (dN + 1 + k))]) ++ List.replicate (1 - (lg_sl ([.ref (ad (dN + 1 + k))])).length) Slot.unset).toArray = ls at hl ⊢
  have hl : lv_has ls 1 [(0, .ref (ad (dN + 1 + k)))] := hl
  refine lv_aload_n hx hb dJ0_length_8abf5_0 rfl (lv_at hl 0 rfl) ?_
  refine vk_getf hx hb hE.2.2.1 hS hown (hts _ jw_vf) (fun _ h9 => h9) dJ0_length_8abf5_1 ?_
  refine va_tlen (v := nI (dslen.getD k 0)) hx hb hE.2.2.2 hS rfl dJ0_length_8abf5_4 ?_
  refine lv_aload_n hx hb dJ0_length_8abf5_5 rfl (lv_at hl 0 rfl) ?_
  refine djoin (r := some (.int 0)) (σ1 := σ) (va_runV (As := []) (rest := [.int (nI (dslen.getD k 0))]) (b := ad (dN + 1 + k)) (C := RJ0) ⟨hx, hb, hml, hown, hts⟩ (c_coder hk s.heap.size) (cwV 0 hts jg_len_coder rfl rfl rfl (by decide +kernel) ⟨Nat.le_of_ble_eq_true rfl, Nat.le_of_ble_eq_true rfl⟩) ⟨dblind, hrv, fun U hU hW => ⟨rfl, dpre hK hXt hA h hU hW⟩⟩ rfl rfl hl.1 rfl (lv_room (Nat.le_of_ble_eq_true rfl)) dJ0_length_8abf5_6 ⟨Nat.le_of_ble_eq_true rfl, Nat.le_of_ble_eq_true rfl⟩) hA h rfl (fun H1 locs1 h1 => ?_)
  show W _ _ _ _ _ _ _ _ _ _ _ _ _ _ _ (F0 m 9 ls [.int 0, .int (nI (dslen.getD k 0))])
  refine lv_ishr hx hb dJ0_length_8abf5_9 ?_
  rw [jsh k hk]
  exact W.iret hx hb hr (fun t ht hW => ⟨⟨nI (dslen.getD k 0), (), rfl, rfl, by show va_P D vwCl (dws tyC ad σ) t.heap; rw [ht]; exact h1.1⟩, h1.2.2.1.F ht⟩) h1.2.2.1.2.2 dJ0_length_8abf5_10 B.notSynchronized
end STR2

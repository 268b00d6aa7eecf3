/-! String.length() and String.charAt() of the six constants -/
def jws (y : MethodName) (code : ByteArray) (maxL : Nat) (ret : Option FieldType) : List Cond := Cond.code y code maxL ret :: dgw
theorem in_dgw {w : Cond} (h : w ∈ lw_tbl) (g : goodWord w = true) : w ∈ dgw := List.mem_filter.mpr ⟨h, g⟩
theorem jgood {y : MethodName} {code : ByteArray} {maxL : Nat} {ret : Option FieldType} (h : Cond.code y code maxL ret ∈ dgw) : GoodIn dgw (jws y code maxL ret) := by
  intro w hw
  rcases List.mem_cons.mp hw with rfl | hw
  · exact ⟨h, dgw_good h⟩
  · exact ⟨hw, dgw_good hw⟩
theorem jw_coder : Cond.code yJ0_coder_7d493 cJ0_coder_7d493 1 (some .byte) ∈ dgw := in_dgw (by decide +kernel) rfl
theorem jw_cs : Cond.fieldLink RJ0 38 "java/lang/String" "COMPACT_STRINGS" "Z" ∈ dgw := in_dgw (by decide +kernel) rfl
theorem jw_cf : Cond.fieldLink RJ0 15 "java/lang/String" "coder" "B" ∈ dgw := in_dgw (by decide +kernel) rfl
section STR
variable {l : Launch} {D : va_G} {tyC : Nat → ClassId} {ad adV : Nat → Nat} {Lx : Nat} {xs : Nat → Int32}
theorem c_coder {σ : dS} {k : Nat} (hk : k < 6) (sz : Nat) : Met l yJ0_coder_7d493 (jws yJ0_coder_7d493 cJ0_coder_7d493 1 (some .byte)) { frames := 0, cells := 0, slots := 0, locals := 0 } (va_Pc [.ref (ad (dN + 1 + k))] (dPre D tyC ad adV Lx xs σ sz)) (dQ D tyC ad sz (some (.int 0)) σ) 0 0 (dA ad sz) := by
  refine Met.ofW (cc := cJ0_coder_7d493) (maxL := 1) (ret := some .byte) (by decide +kernel) rfl ?_
  intro p e s m args below meth c s₁ B hml hv
  obtain ⟨rfl, hsz, hP, hK, hD0, hXt, hscr⟩ := hv
  have hx := B.exec
  have hb := B.bytes
  have hr := B.returns
  have hts0 := atoms_spec (ws := jws yJ0_coder_7d493 cJ0_coder_7d493 1 (some .byte)) B.pre
  have hts : ∀ w ∈ dgw, w.before #[Value.ref (ad (dN + 1 + k))] s = true := fun w hw => hts0 w (List.mem_cons_of_mem _ hw)
  have hown : s.vm.findClass RJ0 = some m.cls := findClass_of_methodNamed B.named
  subst hsz
  have hS : va_S (dA ad s.heap.size) s.heap s.heap [] := va_S.rf
  have hE := (hXt.2.2.1.1).1 k hk
  have hl := lv_entry ([.ref (ad (dN + 1 + k))]) (n := 1) (Nat.le_of_ble_eq_true rfl)
  rw [lg_entry_eq]
  generalize (lg_sl ([.ref (ad (dN + 1 + k))]) ++ List.replicate (1 - (lg_sl ([.ref (ad (dN + 1 + k))])).length) Slot.unset).toArray = ls at hl ⊢
  have hl : lv_has ls 1 [(0, .ref (ad (dN + 1 + k)))] := hl
  refine va_gets hx hb hXt.2.2.2.1 hS hown (hts _ jw_cs) (fun _ h9 => h9) dJ0_coder_7d493_0 ?_
  refine lv_if_eq (tgt := 13) hx hb dJ0_coder_7d493_3 (by decide) (fun c1 => absurd c1 (by decide)) (fun _ => ?_)
  refine lv_aload_n hx hb dJ0_coder_7d493_6 rfl (lv_at hl 0 rfl) ?_
  refine vk_getf hx hb hE.2.1 hS hown (hts _ jw_cf) (fun _ h9 => h9) dJ0_coder_7d493_7 ?_
  refine lv_goto (tgt := 14) hx hb dJ0_coder_7d493_10 (by decide) ?_
  exact W.zret hx hb hr (by decide) (fun t ht hW => ⟨⟨0, (), rfl, rfl, by show va_P D vwCl (dws tyC ad σ) t.heap; rw [ht]; exact hP⟩, hS.F ht⟩) hS.2.2 dJ0_coder_7d493_14 B.notSynchronized
end STR

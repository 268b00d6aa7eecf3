section INITM3
variable {D : va_G} {tyC : Nat → ClassId}
set_option maxRecDepth 100000 in
set_option maxHeartbeats 40000000 in
theorem c_i7 (l : Launch) (g adV : Nat → Nat) (Lx : Nat) (xs : Nat → Int32) (sz : Nat) : Met l yX7_init (jws yX7_init cX7_init 2 none) { frames := 6, cells := 18, slots := 1214, locals := 200 } (va_Pc [.ref (g 56)] (fun U => U.heap.size = sz ∧ va_P D vwCl (L57 tyC g) U.heap ∧ va_K D vwCl (dtys tyC) U ∧ va_D (fun _ => True) (L57 tyC g) ∧ dXt g adV Lx xs (va_A (L57 tyC g) sz) U U.heap)) (va_Qv (fun _ : Unit => True) (fun _ t => ∃ (ad : Nat → Nat) (σ : dS), (∀ k, k < 57 ∨ dN ≤ k → ad k = g k) ∧ va_P D vwCl (dws tyC ad σ) t.heap ∧ va_D (va_A (L57 tyC g) sz) (dws tyC ad σ) ∧ Iv Lx xs σ) (va_A (L57 tyC g) sz)) 18 1214 (va_A (L57 tyC g) sz) := by
  refine Met.ofW (cc := cX7_init) (maxL := 2) (ret := none) (by decide +kernel) rfl ?_
  intro p e s m args below meth c s₁ B hml hv
  obtain ⟨rfl, hsz, hP0, hK, hD0, hXt⟩ := hv
  have hx := B.exec
  have hb := B.bytes
  have hr := B.returns
  have hts0 := atoms_spec (ws := jws yX7_init cX7_init 2 none) B.pre
  have hts : ∀ w ∈ dgw, w.before #[Value.ref (g 56)] s = true := fun w hw => hts0 w (List.mem_cons_of_mem _ hw)
  have hown : s.vm.findClass RX7 = some m.cls := findClass_of_methodNamed B.named
  have hin : meth.name = "<init>" := (name_of_methodNamed B.named B.method).1
  subst hsz
  have hDA := hD0.self (sz := s.heap.size)
  have hP := hP0.sub (ws' := [(g 56, .inr (6, st34))]) [56] rfl
  have hD := (hD0.sub (ws' := [(g 56, .inr (6, st34))]) [56] (by decide) rfl).self (sz := s.heap.size)
  have hsub : ∀ q, va_A [(g 56, .inr (6, st34))] s.heap.size q → va_A (L57 tyC g) s.heap.size q := va_free hDA va_S.rf (fun q h => Or.inr h) [56] rfl
  generalize hAe' : va_A [(g 56, .inr (6, st34))] s.heap.size = A' at hD hsub
  have hA' : ∀ q : Nat, s.heap.size ≤ q → A' q := fun q h => by rw [← hAe']; exact Or.inr h
  generalize hAe : va_A (L57 tyC g) s.heap.size = A at hDA hsub hXt ⊢
  have hA : ∀ q : Nat, s.heap.size ≤ q → A q := fun q h => by rw [← hAe]; exact Or.inr h
  have hS : va_S A' s.heap s.heap [] := va_S.rf
  have hl := lv_entry ([.ref (g 56)]) (n := 2) (Nat.le_of_ble_eq_true rfl)
  rw [lg_entry_eq]
  generalize (lg_sl ([.ref (g 56)]) ++ List.replicate (2 - (lg_sl ([.ref (g 56)])).length) Slot.unset).toArray = ls at hl ⊢
  have hl : lv_has ls 2 [(0, .ref (g 56))] := hl
  refine lv_aload_n hx hb dX7_init_0 rfl (lv_at hl 0 rfl) ?_
  refine W.objInit hx hb hown (hts (.methodLink RX7 1 objectInit) (in_dgw (by decide +kernel) rfl)) (hts _ jw_oi) (hts _ jw_oc) rfl (by rw [hml]; exact hl.1) rfl dX7_init_1 (Nat.le_of_ble_eq_true rfl) (Nat.le_of_ble_eq_true rfl) ?_
  refine W.eq (g2 := F0 m 4 ls []) rfl ?_
  refine i7_arr hx hb hin hts hown hK hA' hP hD hl (fun u1 u2 u3 u4 u5 u6 u7 u8 u9 u10 u11 u12 u13 u14 u15 u16 u17 u18 H locs ls hP hD hS hl => ?_)
  subst hAe'
  obtain ⟨hP, hD⟩ := jn7 g Lx xs u1 u2 u3 u4 u5 u6 u7 u8 u9 u10 u11 u12 u13 u14 u15 u16 u17 u18 hP0 hDA hS.2.1 hsub hP hD
  have hS : va_S A s.heap H locs := ⟨hS.1, fun q h1 h2 => hS.2.1 q h1 (fun z => h2 (hsub q z)), fun x hx => hsub _ (hS.2.2 x hx)⟩
  obtain ⟨ad, hade⟩ : ∃ ad, ad = adG g [u1, u2, u3, u4, u5, u6, u7, u8, u9, u10, u11, u12, u13, u14, u15, u16, u17, u18] := ⟨_, rfl⟩
  rw [← hade] at hP hD
  have hag : ∀ k, k < 57 ∨ dN ≤ k → ad k = g k := fun k hk => by rw [hade]; exact adG_at hk
  have h : dHo D tyC ad Lx xs A s (mk Lx F1 (A2 xs) J1) H locs := ⟨hP, hD, hS, rfl⟩
  have hXt : dXt ad adV Lx xs A s s.heap := dXt.cong (fun k hk => hag k (Or.inr hk)) hXt
  obtain ⟨a, c1, -, a121, a0⟩ := c_firstDraft (Lx := Lx) (F := F1) (J := J1) (A := A2 xs)
  obtain ⟨a', z, c2, a1, z0, z1⟩ := c_keepDraft (Lx := Lx) (F := F1) (J := J1) (A := up (A2 xs) 60 a)
  have h56 : g 56 = ad 56 := (hag 56 (Or.inl (by decide))).symm
  rw [h56] at hl
  refine lv_aload_n hx hb dX7_init_172 rfl (lv_at hl 1 rfl) ?_
  refine djoin (va_runV (As := []) (rest := []) (b := ad 56) (C := RX7) ⟨hx, hb, hml, hown, hts⟩ ((dmet_open hprim mX7_firstDraft (by decide) [.ref 56] _ none _ (by decide) c1) H.size) (cwV 0 hts (jgv (M1 := mX7_firstDraft) (own := RX7) (v := 66) (by decide) rfl (in_dgw (by decide +kernel) rfl)) rfl rfl rfl ⟨rfl, by decide +kernel⟩ ⟨by decide +kernel, by decide +kernel⟩) ⟨dblind, va_recv hK h.1 (ci := 6) rfl (dws_get (k := 56) (by decide)), fun U hU hW => ⟨rfl, dpre hK hXt hA h hU hW⟩⟩ rfl rfl hl.1 rfl (lv_room (Nat.le_of_ble_eq_true rfl)) dX7_init_173 ⟨Nat.le_of_ble_eq_true rfl, Nat.le_of_ble_eq_true rfl⟩) hA h rfl (fun H locs h => ?_)
  refine lv_aload_n hx hb dX7_init_176 rfl (lv_at hl 1 rfl) ?_
  refine djoin (va_runV (As := []) (rest := []) (b := ad 56) (C := RX7) ⟨hx, hb, hml, hown, hts⟩ ((dmet_open hprim mX7_keepDraft (by decide) [.ref 56] _ none _ (by decide) c2) H.size) (cwV 0 hts (jgv (M1 := mX7_keepDraft) (own := RX7) (v := 69) (by decide) rfl (in_dgw (by decide +kernel) rfl)) rfl rfl rfl ⟨rfl, by decide +kernel⟩ ⟨by decide +kernel, by decide +kernel⟩) ⟨dblind, va_recv hK h.1 (ci := 6) rfl (dws_get (k := 56) (by decide)), fun U hU hW => ⟨rfl, dpre hK hXt hA h hU hW⟩⟩ rfl rfl hl.1 rfl (lv_room (Nat.le_of_ble_eq_true rfl)) dX7_init_177 ⟨Nat.le_of_ble_eq_true rfl, Nat.le_of_ble_eq_true rfl⟩) hA h rfl (fun H locs h => ?_)
  exact W.vret hx hb hr (fun t ht hW => ⟨⟨(), rfl, trivial, ad, _, hag, by rw [ht]; exact h.1, h.2.1, iv_start a121 a0 a1 z0 z1⟩, h.2.2.1.F ht⟩) h.2.2.1.2.2 dX7_init_180 B.notSynchronized
end INITM3

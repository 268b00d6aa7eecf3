section DSND
variable {p : Program} {l : Launch} {e : Env} {R : Room} {s : State} {m : MethodId} {args : Array Value} {below : List Frame} {meth : Method} {c : Code} {cells slots : Nat} {Q : State → Prop}
variable {M : Nat} {D : va_G} {tyC : Nat → ClassId} {ad adV : Nat → Nat} {Lx : Nat} {xs : Nat → Int32} {A : Nat → Prop}
/-- a cell was written: the picture with it -/
theorem dHo.set {σ : dS} {H H1 : Heap} {locs locs1 : List Loc} {q : Nat} {x : dE} (hq : q < dN) (h : dHo D tyC ad Lx xs A s σ H locs) (hP : va_P D vwCl ((dws tyC ad σ).set q (ad q, dcE tyC ad x)) H1) (hD : va_D A ((dws tyC ad σ).set q (ad q, dcE tyC ad x))) (hS : va_S A s.heap H1 locs1) : dHo D tyC ad Lx xs A s (dup1 σ q x) H1 locs1 := by
  rw [dws_set hq] at hP hD
  exact ⟨hP, hD, hS, by rw [dup1_scr hq]; exact h.2.2.2⟩
set_option maxHeartbeats 4000000 in
theorem dsnd {pc pc' n : Nat} {i : Instr} {L L' : dL} {st st' : List Value} {σ σ' : dS} (C : dC0 p R s m args c M D tyC ad adV Lx xs A cells slots) (hd : decode (dcode M) pc = .ok (i, n)) (hn : dlen i n = true) (he : dexec M pc i L st σ = some (.inl (pc', L', st', σ'))) {H : Heap} {locs : List Loc} {ls : Array Slot} (h : dHo D tyC ad Lx xs A s σ H locs) (hl : lv_has ls (dmaxL M) (dlv ad 0 L)) (hLn : L.length = dmaxL M)
    (k : ∀ (H1 : Heap) (locs1 : List Loc) (ls1 : Array Slot), dHo D tyC ad Lx xs A s σ' H1 locs1 → lv_has ls1 (dmaxL M) (dlv ad 0 L') → L'.length = dmaxL M → W p l e R s m args below meth c H1 locs1 cells slots Q (F0 m pc' ls1 (st'.map (cv ad)))) :
    W p l e R s m args below meth c H locs cells slots Q (F0 m pc ls (st.map (cv ad))) := by
  obtain ⟨⟨hx, hb, hml, hown, hts⟩, ⟨hK, hXt, hA⟩, hRf, hRl, hRc, hRs⟩ := C
  cases i with
  | iconst v =>
    obtain rfl := eq_of_beq hn
    obtain ⟨rfl, rfl, rfl, rfl⟩ := dnx_inv he
    exact lv_iconst hx hb hd rfl (k H locs ls h hl hLn)
  | bipush v =>
    obtain rfl := eq_of_beq hn
    obtain ⟨rfl, rfl, rfl, rfl⟩ := dnx_inv he
    exact lv_bipush hx hb hd rfl (k H locs ls h hl hLn)
  | sipush v =>
    obtain rfl := eq_of_beq hn
    obtain ⟨rfl, rfl, rfl, rfl⟩ := dnx_inv he
    exact lv_sipush hx hb hd rfl (k H locs ls h hl hLn)
  | lconst v =>
    obtain rfl := eq_of_beq hn
    obtain ⟨rfl, rfl, rfl, rfl⟩ := dnx_inv he
    exact lv_lconst hx hb hd rfl (k H locs ls h hl hLn)
  | ldc v =>
    obtain rfl := eq_of_beq hn
    simp only [dexec] at he
    split at he
    · rename_i w hw
      obtain ⟨rfl, rfl, rfl, rfl⟩ := dnx_inv he
      exact lv_ldc hx hb hown (hts _ (dat_in (dit_ok hw))) hd (k H locs ls h hl hLn)
    · obtain ⟨j, hj, he⟩ := Option.bind_eq_some_iff.mp he
      obtain ⟨rfl, rfl, rfl, rfl⟩ := dnx_inv he
      obtain ⟨t, ht⟩ := dsr_some hj
      exact va_ldcS hx hb hown (hXt.2.2.1.2 j _ _ t ht) hd (k H locs ls h hl hLn)
  | ldc_w v =>
    obtain rfl := eq_of_beq hn
    obtain ⟨w, hw, he⟩ := Option.bind_eq_some_iff.mp he
    obtain ⟨rfl, rfl, rfl, rfl⟩ := dnx_inv he
    exact lv_ldcw hx hb hown (hts _ (dat_in (dit_ok hw))) hd (k H locs ls h hl hLn)
  | ldc2_w v =>
    obtain rfl := eq_of_beq hn
    obtain ⟨w, hw, he⟩ := Option.bind_eq_some_iff.mp he
    obtain ⟨rfl, rfl, rfl, rfl⟩ := dnx_inv he
    exact lv_ldc2 hx hb hown (hts _ (dat_in (dlg_ok hw))) hd (k H locs ls h hl hLn)
  | iload_n v =>
    obtain rfl := eq_of_beq hn
    obtain ⟨w, hw, he⟩ := Option.bind_eq_some_iff.mp he
    obtain ⟨rfl, rfl, rfl, rfl⟩ := dnx_inv he
    exact lv_iload_n hx hb hd rfl (dlv_at hl (dldI_some hw)) (k H locs ls h hl hLn)
  | iload v =>
    obtain rfl := eq_of_beq hn
    obtain ⟨w, hw, he⟩ := Option.bind_eq_some_iff.mp he
    obtain ⟨rfl, rfl, rfl, rfl⟩ := dnx_inv he
    exact lv_iload hx hb hd (dlv_at hl (dldI_some hw)) (k H locs ls h hl hLn)
  | lload_n v =>
    obtain rfl := eq_of_beq hn
    obtain ⟨w, hw, he⟩ := Option.bind_eq_some_iff.mp he
    obtain ⟨rfl, rfl, rfl, rfl⟩ := dnx_inv he
    exact lv_lload_n hx hb hd rfl (dlv_at hl (dldL_some hw)) (k H locs ls h hl hLn)
  | lload v =>
    obtain rfl := eq_of_beq hn
    obtain ⟨w, hw, he⟩ := Option.bind_eq_some_iff.mp he
    obtain ⟨rfl, rfl, rfl, rfl⟩ := dnx_inv he
    exact lv_lload hx hb hd (dlv_at hl (dldL_some hw)) (k H locs ls h hl hLn)
  | aload_n v =>
    obtain rfl := eq_of_beq hn
    obtain ⟨w, hw, he⟩ := Option.bind_eq_some_iff.mp he
    obtain ⟨rfl, rfl, rfl, rfl⟩ := dnx_inv he
    exact lv_aload_n hx hb hd rfl (dlv_at hl (dldR_some hw)) (k H locs ls h hl hLn)
  | aload v =>
    obtain rfl := eq_of_beq hn
    obtain ⟨w, hw, he⟩ := Option.bind_eq_some_iff.mp he
    obtain ⟨rfl, rfl, rfl, rfl⟩ := dnx_inv he
    exact lv_aload hx hb hd (dlv_at hl (dldR_some hw)) (k H locs ls h hl hLn)
  | istore_n v =>
    obtain rfl := eq_of_beq hn
    obtain ⟨⟨a, r⟩, ha, he⟩ := Option.bind_eq_some_iff.mp he
    obtain ⟨L1, hL, he⟩ := Option.bind_eq_some_iff.mp he
    obtain ⟨rfl, rfl, rfl, rfl⟩ := dnx_inv he
    obtain rfl := dpi_some ha
    obtain ⟨g1, g2, g3⟩ := dst1_sub (ad := ad) hL
    exact lv_istore_n hx hb hd rfl hl (by omega) rfl (fun ls1 h1 => k H locs ls1 h (dlv_sub h1 g3) (g2.trans hLn))
  | istore v =>
    obtain rfl := eq_of_beq hn
    obtain ⟨⟨a, r⟩, ha, he⟩ := Option.bind_eq_some_iff.mp he
    obtain ⟨L1, hL, he⟩ := Option.bind_eq_some_iff.mp he
    obtain ⟨rfl, rfl, rfl, rfl⟩ := dnx_inv he
    obtain rfl := dpi_some ha
    obtain ⟨g1, g2, g3⟩ := dst1_sub (ad := ad) hL
    exact lv_istore hx hb hd hl (by omega) rfl (fun ls1 h1 => k H locs ls1 h (dlv_sub h1 g3) (g2.trans hLn))
  | lstore_n v =>
    obtain rfl := eq_of_beq hn
    obtain ⟨⟨a, r⟩, ha, he⟩ := Option.bind_eq_some_iff.mp he
    obtain ⟨L1, hL, he⟩ := Option.bind_eq_some_iff.mp he
    obtain ⟨rfl, rfl, rfl, rfl⟩ := dnx_inv he
    obtain rfl := dpl_some ha
    obtain ⟨g1, g2, g3⟩ := dst2_sub (ad := ad) hL
    exact lv_lstore_n hx hb hd rfl hl (by omega) rfl (fun ls1 h1 => k H locs ls1 h (dlv_sub h1 g3) (g2.trans hLn))
  | lstore v =>
    obtain rfl := eq_of_beq hn
    obtain ⟨⟨a, r⟩, ha, he⟩ := Option.bind_eq_some_iff.mp he
    obtain ⟨L1, hL, he⟩ := Option.bind_eq_some_iff.mp he
    obtain ⟨rfl, rfl, rfl, rfl⟩ := dnx_inv he
    obtain rfl := dpl_some ha
    obtain ⟨g1, g2, g3⟩ := dst2_sub (ad := ad) hL
    exact lv_lstore hx hb hd hl (by omega) rfl (fun ls1 h1 => k H locs ls1 h (dlv_sub h1 g3) (g2.trans hLn))
  | astore_n v =>
    obtain rfl := eq_of_beq hn
    obtain ⟨⟨a, r⟩, ha, he⟩ := Option.bind_eq_some_iff.mp he
    obtain ⟨L1, hL, he⟩ := Option.bind_eq_some_iff.mp he
    obtain ⟨rfl, rfl, rfl, rfl⟩ := dnx_inv he
    obtain rfl := dpr_some ha
    obtain ⟨g1, g2, g3⟩ := dst1_sub (ad := ad) hL
    exact lv_astore_n hx hb hd rfl hl (by omega) rfl (fun ls1 h1 => k H locs ls1 h (dlv_sub h1 g3) (g2.trans hLn))
  | astore v =>
    obtain rfl := eq_of_beq hn
    obtain ⟨⟨a, r⟩, ha, he⟩ := Option.bind_eq_some_iff.mp he
    obtain ⟨L1, hL, he⟩ := Option.bind_eq_some_iff.mp he
    obtain ⟨rfl, rfl, rfl, rfl⟩ := dnx_inv he
    obtain rfl := dpr_some ha
    obtain ⟨g1, g2, g3⟩ := dst1_sub (ad := ad) hL
    exact lv_astore hx hb hd hl (by omega) rfl (fun ls1 h1 => k H locs ls1 h (dlv_sub h1 g3) (g2.trans hLn))
  | iinc v w =>
    obtain rfl := eq_of_beq hn
    obtain ⟨a, ha, he⟩ := Option.bind_eq_some_iff.mp he
    obtain ⟨L1, hL, he⟩ := Option.bind_eq_some_iff.mp he
    obtain ⟨rfl, rfl, rfl, rfl⟩ := dnx_inv he
    obtain ⟨g1, g2, g3⟩ := dst1_sub (ad := ad) hL
    obtain ⟨j, hj⟩ := List.getElem?_of_mem (dlv_mem (ad := ad) (k := 0).mpr ⟨v, _, dldI_some ha, rfl⟩)
    rw [Nat.zero_add] at hj
    exact lv_iinc hx hb hd hl hj rfl (by omega) rfl (fun ls1 h1 => k H locs ls1 h (dlv_sub h1 g3) (g2.trans hLn))
  | iadd =>
    obtain rfl := eq_of_beq hn
    obtain ⟨⟨a, b, r⟩, ha, he⟩ := Option.bind_eq_some_iff.mp he
    obtain ⟨rfl, rfl, rfl, rfl⟩ := dnx_inv he
    obtain rfl := dp2_some ha
    exact lv_iadd hx hb hd (k H locs ls h hl hLn)
  | isub =>
    obtain rfl := eq_of_beq hn
    obtain ⟨⟨a, b, r⟩, ha, he⟩ := Option.bind_eq_some_iff.mp he
    obtain ⟨rfl, rfl, rfl, rfl⟩ := dnx_inv he
    obtain rfl := dp2_some ha
    exact lv_isub hx hb hd (k H locs ls h hl hLn)
  | imul =>
    obtain rfl := eq_of_beq hn
    obtain ⟨⟨a, b, r⟩, ha, he⟩ := Option.bind_eq_some_iff.mp he
    obtain ⟨rfl, rfl, rfl, rfl⟩ := dnx_inv he
    obtain rfl := dp2_some ha
    exact lv_imul hx hb hd (k H locs ls h hl hLn)
  | iand =>
    obtain rfl := eq_of_beq hn
    obtain ⟨⟨a, b, r⟩, ha, he⟩ := Option.bind_eq_some_iff.mp he
    obtain ⟨rfl, rfl, rfl, rfl⟩ := dnx_inv he
    obtain rfl := dp2_some ha
    exact lv_iand hx hb hd (k H locs ls h hl hLn)
  | ior =>
    obtain rfl := eq_of_beq hn
    obtain ⟨⟨a, b, r⟩, ha, he⟩ := Option.bind_eq_some_iff.mp he
    obtain ⟨rfl, rfl, rfl, rfl⟩ := dnx_inv he
    obtain rfl := dp2_some ha
    exact lv_ior hx hb hd (k H locs ls h hl hLn)
  | ixor =>
    obtain rfl := eq_of_beq hn
    obtain ⟨⟨a, b, r⟩, ha, he⟩ := Option.bind_eq_some_iff.mp he
    obtain ⟨rfl, rfl, rfl, rfl⟩ := dnx_inv he
    obtain rfl := dp2_some ha
    exact lv_ixor hx hb hd (k H locs ls h hl hLn)
  | idiv =>
    obtain rfl := eq_of_beq hn
    obtain ⟨⟨a, b, r⟩, ha, he⟩ := Option.bind_eq_some_iff.mp he
    dsimp only at he
    split at he
    · cases he
    · rename_i hz
      obtain ⟨rfl, rfl, rfl, rfl⟩ := dnx_inv he
      obtain rfl := dp2_some ha
      exact lv_idiv hx hb hd hz (k H locs ls h hl hLn)
  | irem =>
    obtain rfl := eq_of_beq hn
    obtain ⟨⟨a, b, r⟩, ha, he⟩ := Option.bind_eq_some_iff.mp he
    dsimp only at he
    split at he
    · cases he
    · rename_i hz
      obtain ⟨rfl, rfl, rfl, rfl⟩ := dnx_inv he
      obtain rfl := dp2_some ha
      exact lv_irem hx hb hd hz (k H locs ls h hl hLn)
  | ishl =>
    obtain rfl := eq_of_beq hn
    obtain ⟨⟨a, b, r⟩, ha, he⟩ := Option.bind_eq_some_iff.mp he
    obtain ⟨rfl, rfl, rfl, rfl⟩ := dnx_inv he
    obtain rfl := dp2_some ha
    exact lv_ishl hx hb hd (k H locs ls h hl hLn)
  | ishr =>
    obtain rfl := eq_of_beq hn
    obtain ⟨⟨a, b, r⟩, ha, he⟩ := Option.bind_eq_some_iff.mp he
    obtain ⟨rfl, rfl, rfl, rfl⟩ := dnx_inv he
    obtain rfl := dp2_some ha
    exact lv_ishr hx hb hd (k H locs ls h hl hLn)
  | ineg =>
    obtain rfl := eq_of_beq hn
    obtain ⟨⟨a, r⟩, ha, he⟩ := Option.bind_eq_some_iff.mp he
    obtain ⟨rfl, rfl, rfl, rfl⟩ := dnx_inv he
    obtain rfl := dpi_some ha
    exact lv_ineg hx hb hd (k H locs ls h hl hLn)
  | i2l =>
    obtain rfl := eq_of_beq hn
    obtain ⟨⟨a, r⟩, ha, he⟩ := Option.bind_eq_some_iff.mp he
    obtain ⟨rfl, rfl, rfl, rfl⟩ := dnx_inv he
    obtain rfl := dpi_some ha
    exact lv_i2l hx hb hd rfl (k H locs ls h hl hLn)
  | i2b =>
    obtain rfl := eq_of_beq hn
    obtain ⟨⟨a, r⟩, ha, he⟩ := Option.bind_eq_some_iff.mp he
    obtain ⟨rfl, rfl, rfl, rfl⟩ := dnx_inv he
    obtain rfl := dpi_some ha
    exact lv_i2b hx hb hd rfl (k H locs ls h hl hLn)
  | i2s =>
    obtain rfl := eq_of_beq hn
    obtain ⟨⟨a, r⟩, ha, he⟩ := Option.bind_eq_some_iff.mp he
    obtain ⟨rfl, rfl, rfl, rfl⟩ := dnx_inv he
    obtain rfl := dpi_some ha
    exact lv_i2s hx hb hd rfl (k H locs ls h hl hLn)
  | ladd =>
    obtain rfl := eq_of_beq hn
    obtain ⟨⟨a, b, r⟩, ha, he⟩ := Option.bind_eq_some_iff.mp he
    obtain ⟨rfl, rfl, rfl, rfl⟩ := dnx_inv he
    obtain rfl := dp2l_some ha
    exact lv_ladd hx hb hd (k H locs ls h hl hLn)
  | lsub =>
    obtain rfl := eq_of_beq hn
    obtain ⟨⟨a, b, r⟩, ha, he⟩ := Option.bind_eq_some_iff.mp he
    obtain ⟨rfl, rfl, rfl, rfl⟩ := dnx_inv he
    obtain rfl := dp2l_some ha
    exact lv_lsub hx hb hd (k H locs ls h hl hLn)
  | lmul =>
    obtain rfl := eq_of_beq hn
    obtain ⟨⟨a, b, r⟩, ha, he⟩ := Option.bind_eq_some_iff.mp he
    obtain ⟨rfl, rfl, rfl, rfl⟩ := dnx_inv he
    obtain rfl := dp2l_some ha
    exact lv_lmul hx hb hd (k H locs ls h hl hLn)
  | ldiv =>
    obtain rfl := eq_of_beq hn
    obtain ⟨⟨a, b, r⟩, ha, he⟩ := Option.bind_eq_some_iff.mp he
    dsimp only at he
    split at he
    · cases he
    · rename_i hz
      obtain ⟨rfl, rfl, rfl, rfl⟩ := dnx_inv he
      obtain rfl := dp2l_some ha
      exact lv_ldiv hx hb hd hz (k H locs ls h hl hLn)
  | lrem =>
    obtain rfl := eq_of_beq hn
    obtain ⟨⟨a, b, r⟩, ha, he⟩ := Option.bind_eq_some_iff.mp he
    dsimp only at he
    split at he
    · cases he
    · rename_i hz
      obtain ⟨rfl, rfl, rfl, rfl⟩ := dnx_inv he
      obtain rfl := dp2l_some ha
      exact lv_lrem hx hb hd hz (k H locs ls h hl hLn)
  | lcmp =>
    obtain rfl := eq_of_beq hn
    obtain ⟨⟨a, b, r⟩, ha, he⟩ := Option.bind_eq_some_iff.mp he
    obtain ⟨rfl, rfl, rfl, rfl⟩ := dnx_inv he
    obtain rfl := dp2l_some ha
    exact W.lcmp hx hb hd (k H locs ls h hl hLn)
  | dup =>
    obtain rfl := eq_of_beq hn
    simp only [dexec] at he
    split at he
    · split at he
      · rename_i hz
        obtain ⟨rfl, rfl, rfl, rfl⟩ := dnx_inv he
        exact lv_dup hx hb hd (by rw [cv_cat]; exact hz) (k H locs ls h hl hLn)
      · cases he
    · cases he
  | dup2 =>
    obtain rfl := eq_of_beq hn
    simp only [dexec] at he
    split at he
    · split at he
      · rename_i hz
        obtain ⟨rfl, rfl, rfl, rfl⟩ := dnx_inv he
        exact lv_dup2_11 hx hb hd (by rw [cv_cat]; exact hz.1) (by rw [cv_cat]; exact hz.2) (k H locs ls h hl hLn)
      · cases he
    · cases he
  | pop =>
    obtain rfl := eq_of_beq hn
    simp only [dexec] at he
    split at he
    · split at he
      · rename_i hz
        obtain ⟨rfl, rfl, rfl, rfl⟩ := dnx_inv he
        exact lv_pop hx hb hd (by rw [cv_cat]; exact hz) (k H locs ls h hl hLn)
      · cases he
    · cases he
  | goto off =>
    obtain rfl := eq_of_beq hn
    obtain ⟨ht, rfl, rfl, rfl⟩ := djump_inv he
    exact lv_goto hx hb hd ht (k H locs ls h hl hLn)
  | ifCond cd off =>
    obtain rfl := eq_of_beq hn
    obtain ⟨⟨a, r⟩, ha, he⟩ := Option.bind_eq_some_iff.mp he
    obtain rfl := dpi_some ha
    obtain ⟨tgt, ht, h1, h2, rfl, rfl, rfl⟩ := dbr_inv he
    have kk := k H locs ls h hl hLn
    cases cd with
    | eq => exact lv_if_eq hx hb hd ht (fun z => by rw [h1 (decide_eq_true z)]; exact kk) (fun z => by rw [h2 (decide_eq_false z)]; exact kk)
    | ne => exact lv_if_ne hx hb hd ht (fun z => by rw [h1 (decide_eq_true z)]; exact kk) (fun z => by rw [h2 (decide_eq_false (not_not_intro z))]; exact kk)
    | lt => exact lv_if_lt hx hb hd ht (fun z => by rw [h1 (decide_eq_true z)]; exact kk) (fun z => by rw [h2 (decide_eq_false z)]; exact kk)
    | ge => exact lv_if_ge hx hb hd ht (fun z => by rw [h1 (decide_eq_true z)]; exact kk) (fun z => by rw [h2 (decide_eq_false z)]; exact kk)
    | gt => exact lv_if_gt hx hb hd ht (fun z => by rw [h1 (decide_eq_true z)]; exact kk) (fun z => by rw [h2 (decide_eq_false z)]; exact kk)
    | le => exact lv_if_le hx hb hd ht (fun z => by rw [h1 (decide_eq_true z)]; exact kk) (fun z => by rw [h2 (decide_eq_false z)]; exact kk)
  | if_icmp cd off =>
    obtain rfl := eq_of_beq hn
    obtain ⟨⟨a, b, r⟩, ha, he⟩ := Option.bind_eq_some_iff.mp he
    obtain rfl := dp2_some ha
    obtain ⟨tgt, ht, h1, h2, rfl, rfl, rfl⟩ := dbr_inv he
    have kk := k H locs ls h hl hLn
    cases cd with
    | eq => exact lv_icmp_eq hx hb hd ht (fun z => by rw [h1 (decide_eq_true z)]; exact kk) (fun z => by rw [h2 (decide_eq_false z)]; exact kk)
    | ne => exact lv_icmp_ne hx hb hd ht (fun z => by rw [h1 (decide_eq_true z)]; exact kk) (fun z => by rw [h2 (decide_eq_false (not_not_intro z))]; exact kk)
    | lt => exact lv_icmp_lt hx hb hd ht (fun z => by rw [h1 (decide_eq_true z)]; exact kk) (fun z => by rw [h2 (decide_eq_false z)]; exact kk)
    | ge => exact lv_icmp_ge hx hb hd ht (fun z => by rw [h1 (decide_eq_true z)]; exact kk) (fun z => by rw [h2 (decide_eq_false z)]; exact kk)
    | gt => exact lv_icmp_gt hx hb hd ht (fun z => by rw [h1 (decide_eq_true z)]; exact kk) (fun z => by rw [h2 (decide_eq_false z)]; exact kk)
    | le => exact lv_icmp_le hx hb hd ht (fun z => by rw [h1 (decide_eq_true z)]; exact kk) (fun z => by rw [h2 (decide_eq_false z)]; exact kk)
  | tableswitch d lo hi offs =>
    obtain ⟨⟨a, r⟩, ha, he1⟩ := Option.bind_eq_some_iff.mp he
    clear he
    obtain rfl := dpi_some ha
    split at he1
    · rename_i hz
      obtain ⟨ht, rfl, rfl, rfl⟩ := djump_inv he1
      exact lv_tableOut hx hb hd hz ht (k H locs ls h hl hLn)
    · rename_i hz
      obtain ⟨o, ho, he2⟩ := Option.bind_eq_some_iff.mp he1
      obtain ⟨ht, rfl, rfl, rfl⟩ := djump_inv he2
      exact lv_tableIn hx hb hd (fun z => hz (Or.inl z)) (fun z => hz (Or.inr z)) ho ht (k H locs ls h hl hLn)
  | getfield v =>
    obtain rfl := eq_of_beq hn
    obtain ⟨f, hf, he⟩ := Option.bind_eq_some_iff.mp he
    obtain ⟨⟨a, r⟩, ha, he⟩ := Option.bind_eq_some_iff.mp he
    obtain ⟨w, hw, he⟩ := Option.bind_eq_some_iff.mp he
    obtain ⟨rfl, rfl, rfl, rfl⟩ := dnx_inv he
    obtain rfl := dpr_some ha
    obtain ⟨hq, fs, e1, e2⟩ := dget_some hw
    have hok := dfld_ok hf
    unfold dfok at hok
    split at hok
    · rename_i C0 T0 N0 hv
      simp only [Bool.and_eq_true, decide_eq_true_eq] at hok
      have hg := dws_get (tyC := tyC) (ad := ad) (σ := σ) hq
      rw [e1] at hg
      exact va_get (C := C0) (T := T0) (N := N0) (ref := (T0 f.2.1).1) hx hb hts (dlay_in hv) hown hK h.1 a hg hv f.2.1 hok.1 (hts _ (dat_in hok.2)) (fun _ z => z) (v := cv ad w) (by rw [List.getElem?_map, e2]; rfl) hd (k H locs ls h hl hLn)
    · cases hok
  | putfield v =>
    obtain rfl := eq_of_beq hn
    obtain ⟨f, hf, he1⟩ := Option.bind_eq_some_iff.mp he
    clear he
    cases st with
    | nil => cases he1
    | cons w r0 =>
      obtain ⟨⟨a, r⟩, ha, he2⟩ := Option.bind_eq_some_iff.mp he1
      obtain ⟨ty, hty, he3⟩ := Option.bind_eq_some_iff.mp he2
      by_cases hfit : dfit ty w = true
      · rw [if_pos hfit] at he3
        obtain ⟨σ1, hw, he4⟩ := Option.bind_eq_some_iff.mp he3
        obtain ⟨rfl, rfl, rfl, rfl⟩ := dnx_inv he4
        clear he1 he2 he3 he4
        obtain rfl := dpr_some ha
        obtain ⟨hq, fs, e1, e2, rfl⟩ := dput_some hw
        obtain ⟨c1, c2, c3⟩ := dfit_ok ad hfit
        have hok := dfld_ok hf
        unfold dfok at hok
        split at hok
        · rename_i C0 T0 N0 hv
          simp only [Bool.and_eq_true, decide_eq_true_eq] at hok
          dsimp only at hv
          unfold dfty at hty
          rw [hv] at hty
          dsimp only at hty
          split at hty
          · rename_i hfin
            obtain ⟨hnm, ty0, hty0⟩ := dnm_all hv
            have hg := dws_get (tyC := tyC) (ad := ad) (σ := σ) hq
            rw [e1] at hg
            refine W.eq (g2 := F0 m pc ls (w :: .ref (ad a) :: r.map (cv ad))) (by rw [List.map_cons, List.map_cons, c1]; rfl) ?_
            refine va_put (C := C0) (T := T0) (N := N0) (ref := (T0 f.2.1).1) (ty := ty) (v := w) hx hb hts (dlay_in hv) ty0 hty0 hnm hown hK h.1 h.2.1 h.2.2.1 a hg hv f.2.1 hok.1 (hts _ (dat_in hok.2)) (fun _ z => z) hfin.2 hty c2 c3 (by rw [List.length_map]; exact e2) hd (fun H1 locs1 q1 q2 q3 => ?_)
            have e9 : (fs.map (cv ad)).set f.2.1 w = (fs.set f.2.1 w).map (cv ad) := by rw [List.map_set, c1]
            rw [e9] at q1 q2
            exact k H1 locs1 ls (dHo.set (x := .inr (f.1, fs.set f.2.1 w)) hq h q1 q2 q3) hl hLn
          · cases hty
        · cases hok
      · rw [if_neg hfit] at he3
        cases he3
  | iaload =>
    obtain rfl := eq_of_beq hn
    obtain ⟨⟨a, r⟩, ha, he⟩ := Option.bind_eq_some_iff.mp he
    obtain ⟨⟨b, r2⟩, hb2, he⟩ := Option.bind_eq_some_iff.mp he
    dsimp only at he
    split at he
    · rename_i hle
      obtain ⟨w, hw, he⟩ := Option.bind_eq_some_iff.mp he
      obtain ⟨rfl, rfl, rfl, rfl⟩ := dnx_inv he
      obtain rfl := dpi_some ha
      obtain rfl := dpr_some hb2
      obtain ⟨n0, f0, e1, e2, rfl⟩ := dald_some hw
      rcases Nat.lt_or_ge b dN with hq | hq
      · have hg := dws_get (tyC := tyC) (ad := ad) (σ := σ) hq
        rw [e1] at hg
        exact va_iald hx hb hK h.1 b 0 hg rfl e2 hd (k H locs ls h hl hLn)
      · obtain rfl : b = dN := Nat.le_antisymm hle hq
        have e3 := e1.symm.trans h.2.2.2
        cases e3
        exact va_sld hx hb hXt.1.1 hXt.1.2.1 hXt.1.2.2 h.2.2.1 e2 hd (k H locs ls h hl hLn)
    · cases he
  | iastore =>
    obtain rfl := eq_of_beq hn
    obtain ⟨⟨i, x, r⟩, ha, he⟩ := Option.bind_eq_some_iff.mp he
    obtain ⟨⟨b, r2⟩, hb2, he⟩ := Option.bind_eq_some_iff.mp he
    obtain ⟨σ1, hw, he⟩ := Option.bind_eq_some_iff.mp he
    obtain ⟨rfl, rfl, rfl, rfl⟩ := dnx_inv he
    obtain rfl := dpr_some hb2
    obtain rfl := dp2_some ha
    obtain ⟨hq, n0, f0, e1, e2, rfl⟩ := dast_some hw
    have hg := dws_get (tyC := tyC) (ad := ad) (σ := σ) hq
    rw [e1] at hg
    exact va_iast hx hb hK h.1 h.2.1 h.2.2.1 b 0 hg rfl e2 hd (fun H1 locs1 q1 q2 q3 => k H1 locs1 ls (dHo.set (x := .inl (0, n0, .inl (upd f0 i.toNatClampNeg x))) hq h q1 q2 q3) hl hLn)
  | baload =>
    obtain rfl := eq_of_beq hn
    obtain ⟨⟨a, r⟩, ha, he⟩ := Option.bind_eq_some_iff.mp he
    obtain ⟨⟨b, r2⟩, hb2, he⟩ := Option.bind_eq_some_iff.mp he
    obtain ⟨w, hw, he⟩ := Option.bind_eq_some_iff.mp he
    obtain ⟨rfl, rfl, rfl, rfl⟩ := dnx_inv he
    obtain rfl := dpi_some ha
    obtain rfl := dpr_some hb2
    unfold dbld at hw
    split at hw
    · rename_i hq
      split at hw
      · obtain ⟨n0, f0, e1, e2, rfl⟩ := dald_some hw
        have hg := dws_get (tyC := tyC) (ad := ad) (σ := σ) hq
        rw [e1] at hg
        exact va_bald hx hb hK h.1 b 1 hg rfl e2 hd (k H locs ls h hl hLn)
      · obtain ⟨n0, f0, e1, e2, rfl⟩ := dald_some hw
        have hg := dws_get (tyC := tyC) (ad := ad) (σ := σ) hq
        rw [e1] at hg
        exact va_zald hx hb hK h.1 b 2 hg rfl e2 hd (k H locs ls h hl hLn)
      · cases hw
    · cases hw
  | bastore =>
    obtain rfl := eq_of_beq hn
    obtain ⟨⟨i, x, r⟩, ha, he⟩ := Option.bind_eq_some_iff.mp he
    obtain ⟨⟨b, r2⟩, hb2, he⟩ := Option.bind_eq_some_iff.mp he
    obtain ⟨σ1, hw, he⟩ := Option.bind_eq_some_iff.mp he
    obtain ⟨rfl, rfl, rfl, rfl⟩ := dnx_inv he
    obtain rfl := dpr_some hb2
    obtain rfl := dp2_some ha
    unfold dbst at hw
    split at hw
    · obtain ⟨hq, n0, f0, e1, e2, rfl⟩ := dast_some hw
      have hg := dws_get (tyC := tyC) (ad := ad) (σ := σ) hq
      rw [e1] at hg
      exact va_bast hx hb hK h.1 h.2.1 h.2.2.1 b 1 hg rfl e2 hd (fun H1 locs1 q1 q2 q3 => k H1 locs1 ls (dHo.set (x := .inl (1, n0, .inl (upd f0 i.toNatClampNeg (vp_nar .byte x)))) hq h q1 q2 q3) hl hLn)
    · obtain ⟨hq, n0, f0, e1, e2, rfl⟩ := dast_some hw
      have hg := dws_get (tyC := tyC) (ad := ad) (σ := σ) hq
      rw [e1] at hg
      exact va_zast hx hb hK h.1 h.2.1 h.2.2.1 b 2 hg rfl e2 hd (fun H1 locs1 q1 q2 q3 => k H1 locs1 ls (dHo.set (x := .inl (2, n0, .inl (upd f0 i.toNatClampNeg (vp_nar .boolean x)))) hq h q1 q2 q3) hl hLn)
    · cases hw
  | laload =>
    obtain rfl := eq_of_beq hn
    obtain ⟨⟨a, r⟩, ha, he⟩ := Option.bind_eq_some_iff.mp he
    obtain ⟨⟨b, r2⟩, hb2, he⟩ := Option.bind_eq_some_iff.mp he
    obtain ⟨w, hw, he⟩ := Option.bind_eq_some_iff.mp he
    obtain ⟨rfl, rfl, rfl, rfl⟩ := dnx_inv he
    obtain rfl := dpi_some ha
    obtain rfl := dpr_some hb2
    obtain ⟨hq, n0, f0, e1, e2, rfl⟩ := dlld_some hw
    have hg := dws_get (tyC := tyC) (ad := ad) (σ := σ) hq
    rw [e1] at hg
    exact va_lald hx hb hK h.1 b 3 hg rfl e2 hd (k H locs ls h hl hLn)
  | lastore =>
    obtain rfl := eq_of_beq hn
    obtain ⟨⟨x, r⟩, ha, he⟩ := Option.bind_eq_some_iff.mp he
    obtain ⟨⟨i, r1⟩, hi, he⟩ := Option.bind_eq_some_iff.mp he
    obtain ⟨⟨b, r2⟩, hb2, he⟩ := Option.bind_eq_some_iff.mp he
    obtain ⟨σ1, hw, he⟩ := Option.bind_eq_some_iff.mp he
    obtain ⟨rfl, rfl, rfl, rfl⟩ := dnx_inv he
    obtain rfl := dpr_some hb2
    obtain rfl := dpi_some hi
    obtain rfl := dpl_some ha
    obtain ⟨hq, n0, f0, e1, e2, rfl⟩ := dlst_some hw
    have hg := dws_get (tyC := tyC) (ad := ad) (σ := σ) hq
    rw [e1] at hg
    exact va_last hx hb hK h.1 h.2.1 h.2.2.1 b 3 hg rfl e2 hd (fun H1 locs1 q1 q2 q3 => k H1 locs1 ls (dHo.set (x := .inl (3, n0, .inr (.inl (vp_updL f0 i.toNatClampNeg x)))) hq h q1 q2 q3) hl hLn)
  | aaload =>
    obtain rfl := eq_of_beq hn
    obtain ⟨⟨a, r⟩, ha, he⟩ := Option.bind_eq_some_iff.mp he
    obtain ⟨⟨b, r2⟩, hb2, he⟩ := Option.bind_eq_some_iff.mp he
    obtain ⟨w, hw, he⟩ := Option.bind_eq_some_iff.mp he
    obtain ⟨rfl, rfl, rfl, rfl⟩ := dnx_inv he
    obtain rfl := dpi_some ha
    obtain rfl := dpr_some hb2
    obtain ⟨hq, t0, n0, f0, ht0, e1, e2, rfl⟩ := drld_some hw
    have hg := dws_get (tyC := tyC) (ad := ad) (σ := σ) hq
    rw [e1] at hg
    have kk := k H locs ls h hl hLn
    rw [List.map_cons, cv_rf] at kk
    rcases ht0 with rfl | rfl
    · exact va_aldq hx hb hK h.1 b 4 hg rfl e2 hd kk
    · exact va_aldq hx hb hK h.1 b 5 hg rfl e2 hd kk
  | arraylength =>
    obtain rfl := eq_of_beq hn
    obtain ⟨⟨b, r⟩, ha, he⟩ := Option.bind_eq_some_iff.mp he
    obtain ⟨w, hw, he⟩ := Option.bind_eq_some_iff.mp he
    obtain ⟨rfl, rfl, rfl, rfl⟩ := dnx_inv he
    obtain rfl := dpr_some ha
    unfold dalen at hw
    split at hw
    · rename_i hq
      obtain ⟨⟨t0, n0⟩, e1, rfl⟩ := Option.map_eq_some_iff.mp hw
      obtain ⟨a0, e2, e3, ht⟩ := dtag_some e1
      have hg := dws_get (tyC := tyC) (ad := ad) (σ := σ) hq
      rw [e2] at hg
      have hty : ∃ ty, (dtys tyC)[t0]? = some (tyC t0, ty) := by
        match t0, ht with
        | 0, _ => exact ⟨_, rfl⟩
        | 1, _ => exact ⟨_, rfl⟩
        | 2, _ => exact ⟨_, rfl⟩
        | 3, _ => exact ⟨_, rfl⟩
        | 4, _ => exact ⟨_, rfl⟩
        | 5, _ => exact ⟨_, rfl⟩
        | t + 6, ht => exact absurd ht (by omega)
      obtain ⟨ty, hty⟩ := hty
      exact va_alen hx hb hK h.1 b t0 hg hty (by rw [dcA_len, e3]) hd (k H locs ls h hl hLn)
    · split at hw
      · rename_i hq
        dsimp only at hq
        subst hq
        obtain ⟨⟨n0, f0⟩, e1, rfl⟩ := Option.map_eq_some_iff.mp hw
        have e3 := (dai_some e1).symm.trans h.2.2.2
        cases e3
        exact va_slen hx hb hXt.1.1 hXt.1.2.1 hXt.1.2.2 h.2.2.1 hd (k H locs ls h hl hLn)
      · cases hw
  | invokevirtual v =>
    obtain ⟨f, hf, he⟩ := Option.bind_eq_some_iff.mp he
    split at he
    · obtain ⟨q, hq, he⟩ := Option.bind_eq_some_iff.mp he
      split at he
      · unfold dcl at he
        split at he <;> cases he
      · cases he
    · split at he
      · obtain ⟨q, hq, he⟩ := Option.bind_eq_some_iff.mp he
        split at he
        · unfold dcl at he
          split at he <;> cases he
        · cases he
      · cases he
  | invokestatic v =>
    obtain rfl := eq_of_beq hn
    obtain ⟨f, hf, he⟩ := Option.bind_eq_some_iff.mp he
    have hok := dlink_ok hf
    split at he
    · unfold dcl at he
      split at he <;> cases he
    · split at he
      · rename_i h4
        obtain ⟨⟨dp, nn, r0⟩, h0, he⟩ := Option.bind_eq_some_iff.mp he
        obtain ⟨⟨q1, r1⟩, h1, he⟩ := Option.bind_eq_some_iff.mp he
        obtain ⟨⟨sp, r2⟩, h2, he⟩ := Option.bind_eq_some_iff.mp he
        obtain ⟨⟨q0, r3⟩, h3, he⟩ := Option.bind_eq_some_iff.mp he
        split at he
        · rename_i hroom
          obtain ⟨σ1, hw, he⟩ := Option.bind_eq_some_iff.mp he
          obtain ⟨rfl, rfl, rfl, rfl⟩ := dnx_inv he
          obtain rfl := dpr_some h3
          obtain rfl := dpi_some h2
          obtain rfl := dpr_some h1
          obtain rfl := dp2_some h0
          obtain ⟨hq0, hq1, n0, f0, n1, g1, e1, e2, z1, z2, z3, z4, z5, rfl⟩ := dcopy_some hw
          have hg0 := dws_get (tyC := tyC) (ad := ad) (σ := σ) hq0
          rw [e1] at hg0
          have hg1 := dws_get (tyC := tyC) (ad := ad) (σ := σ) hq1
          rw [e2] at hg1
          unfold dlok at hok
          dsimp only at hok
          rw [h4] at hok
          exact va_copyi hx hb (by rw [hml]; exact hl.1.symm) hown (hts _ (dat_in hok)) (hts _ (dat_in dacl_ok.1)) (hts _ (dat_in dacl_ok.2.1)) (hts _ (dat_in dacl_ok.2.2)) hK h.1 h.2.1 h.2.2.1 q0 q1 0 0 hg0 hg1 rfl rfl rfl z1 z2 z3 z4 z5 (fun _ _ => rfl) (by rw [hRf]; exact hroom.1) (by rw [cv_cats, hRl]; exact hroom.2) hd (fun H1 locs1 y1 y2 y3 => k H1 locs1 ls (dHo.set (x := .inl (0, n1, .inl (va_cpy f0 g1 sp.toNatClampNeg dp.toNatClampNeg nn.toNatClampNeg))) hq1 h y1 y2 y3) hl hLn)
        · cases he
      · split at he
        · rename_i h5
          obtain ⟨⟨x, y, r0⟩, h0, he⟩ := Option.bind_eq_some_iff.mp he
          split at he
          · rename_i hroom
            obtain ⟨rfl, rfl, rfl, rfl⟩ := dnx_inv he
            obtain rfl := dp2_some h0
            unfold dlok at hok
            dsimp only at hok
            rw [h5] at hok
            exact va_mmax hx hb (by rw [hml]; exact hl.1.symm) hown (hts _ (dat_in hok)) (hts _ (dat_in dmxl_ok.1)) (hts _ (dat_in dmxl_ok.2)) (hts _ (List.mem_filter.mpr ⟨List.mem_of_getElem? dmxl_code, rfl⟩)) (by rw [hRf]; exact hroom.1) (by rw [cv_cats, hRl]; exact hroom.2) hRc hRs hd (k H locs ls h hl hLn)
          · cases he
        · cases he
  | ireturn =>
    simp only [dexec] at he
    split at he
    · unfold dretv at he
      split at he <;> first | cases he | (split at he <;> cases he)
    · cases he
  | lreturn =>
    simp only [dexec] at he
    split at he
    · unfold dretv at he
      split at he <;> first | cases he | (split at he <;> cases he)
    · cases he
  | areturn =>
    simp only [dexec] at he
    split at he
    · unfold dretv at he
      split at he <;> first | cases he | (split at he <;> cases he)
    · cases he
  | return_ =>
    simp only [dexec] at he
    split at he <;> cases he
  | _ => exact absurd (show (none : Option dO) = _ from he) (by simp)
end DSND

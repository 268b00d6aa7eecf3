/-! THE CLAIM OUT OF ONE WALK OF THE LAW'S BODY. Your part is whole_start (and what it stands on); all else here is the same for every law, but numbers. -/
def R_law : String := "GuardedCodeLaw"
def lw_P (b : Addr) (xs : List Int32) (args : Array Value) (s : State) : Prop := args = #[.ref b] ∧ s.IntsAt b xs ∧ xs.length ≤ 2560 ∧ (Jvm.Cond.and given_1 narrow_1).before args s = true
def lw_Q (_ : Array Value) (s : State) (o : Outcome) (t : State) : Prop := o = .returned (some (.int 1)) ∧ Framed s o t [] 600000 7302250
def lw_Z (below : List Frame) (a : Array Value) (s : State) : State → Prop := fun t => ∃ o, t.status = .running ∧ Ended t below o ∧ lw_Q a s o t
/-- the law's own end, with 1 on the stack, nothing written that was there before, its room as the claim has it -/
theorem lw_ret {p : Program} {l : Launch} {e : Env} {s : State} {m : MethodId} {below : List Frame} {meth : Method} {c : Code} {b : Nat} (hx : p.tables.exec = Jvm.exec) (hb : c.code = code) (hr : meth.sig.returnType = ret) (hlocks : meth.locks = false) {pc : Nat} {H : Heap} {ls : Array Slot} (hdg : decode code pc = .ok (.ireturn, 1)) : W p l e room_1 s m #[Value.ref b] below meth c H [] 600000 7302250 (lw_Z below #[Value.ref b] s) (F0 m pc ls [.int 1]) := by
  intro T hT X
  obtain ⟨fs, hret, hrun, hended, hW, hframe⟩ := X.leave (v := some (.int 1)) (hlocks := hlocks) (fun h => by rw [hr] at h; cases h)
  have hmeth' : T.vm.method? m = some meth := X.method'
  refine ⟨T.setFrames fs, ?_, .returned (some (.int 1)), hrun, hended, rfl, ⟨_, rfl⟩, hW, hframe⟩
  jvm_step X.here [X.here.top, hx, hb, hdg, hmeth', hr, ret, narrow_b1]
  (try refine ⟨rfl, ?_⟩); (try refine ⟨rfl, ?_⟩)
  first | (intro acts; rw [hret _ acts rfl rfl rfl]) | rw [hret _ _ rfl rfl rfl]
  exact Steps.refl _
/-- what holds at the law's entry: the machine, the code, the tables' words (any of lw_tbl by 'hts w (by decide +kernel)'), the script of L ints xs at the cell b, what the Statement gives of the start (any of its parts by flat_of_before) -/
def lw_At (p : Program) (s : State) (m : MethodId) (meth : Method) (c : Code) (b L : Nat) (xs : Nat → Int32) : Prop :=
  p.tables.exec = Jvm.exec ∧ c.code = code ∧ meth.sig.returnType = ret ∧ c.maxLocals = 4 ∧ s.vm.findClass R_law = some m.cls ∧ (∀ w ∈ lw_tbl, w.before #[Value.ref b] s = true) ∧ va_X b L xs s s.heap ∧ b < s.heap.size ∧ meth.locks = false ∧ (Jvm.Cond.and given_1 narrow_1).before #[Value.ref b] s = true
set_option maxHeartbeats 4000000 in
set_option maxRecDepth 100000 in
theorem whole_start {p : Program} {e : Env} {s : State} {m : MethodId} {below : List Frame} {meth : Method} {c : Code} (l : Launch) (hflags : l.flags = flags0) {b L : Nat} {xs : Nat → Int32} (hL : L ≤ 2560) (C0 : lw_At p s m meth c b L xs) : W p l e room_1 s m #[Value.ref b] below meth c s.heap [] 0 0 (lw_Z below #[Value.ref b] s) (entryFrame m ([Value.ref b] : List Value).toArray 4) := by
  obtain ⟨hx, hb, hr, hml, hown, hts0, hX, hbl, hlocks, hgv⟩ := id C0
  have hown : s.vm.findClass RL = some m.cls := hown
  have hts : ∀ w ∈ dgw, w.before #[Value.ref b] s = true := fun w hw => hts0 w (List.mem_filter.mp hw).1
  obtain ⟨D, tyC, hK⟩ := st_K hts0
  obtain ⟨adK, adV, hXt0⟩ := st_X hts0 hgv hX hbl
  generalize hAe : (fun q : Nat => s.heap.size ≤ q) = A at hXt0
  have hA : ∀ q : Nat, s.heap.size ≤ q → A q := fun q h => by rw [← hAe]; exact h
  have hAn : ∀ q : Nat, A q → s.heap.size ≤ q := fun q h => by rw [← hAe] at h; exact h
  have hS : va_S A s.heap s.heap [] := va_S.rf
  have hP : va_P D vwCl [] s.heap := fun k q h => by simp at h
  have hD : va_D A [] := ⟨fun i j p q h => by simp at h, fun k q h => by simp at h⟩
  have hl := lv_entry ([.ref b]) (n := 4) (Nat.le_of_ble_eq_true rfl)
  rw [lg_entry_eq]
  generalize (lg_sl ([.ref b]) ++ List.replicate (4 - (lg_sl ([.ref b])).length) Slot.unset).toArray = ls at hl ⊢
  have hl : lv_has ls 4 [(0, .ref b)] := hl
  refine va_new (ci := 5) (fs := [.null, .null, .null, .null, .null, .null, .null, .null, .int 0, .int 0]) (C := RX6) (T := TX6) (N := 10) hx hb hts (dlay_in (ci := 5) rfl) tyX6 tyX6_ok hown (hts0 (.classLink RL 7 RX6) (by decide +kernel)) (hts0 (.instantiable RX6 10) (by decide +kernel)) (hts0 (.initialized RX6) (by decide +kernel)) hK hP hD hS hA rfl (by decide) (Nat.le_of_ble_eq_true rfl) (Nat.le_of_ble_eq_true rfl) dL_law_0 (fun h0 H hP hD hS => ?_)
  have hP : va_P D vwCl [(h0, .inr (5, [.null, .null, .null, .null, .null, .null, .null, .null, .int 0, .int 0]))] H := hP
  have hD : va_D A [(h0, .inr (5, [.null, .null, .null, .null, .null, .null, .null, .null, .int 0, .int 0]))] := hD
  refine W.widen (k := 1) (n := 10) (by omega) (by omega) ?_
  refine lv_dup hx hb dL_law_3 rfl ?_
  have hFc := va_free (wc := [(h0, .inr (5, [.null, .null, .null, .null, .null, .null, .null, .null, .int 0, .int 0]))]) hD hS hA [0] rfl
  refine va_callv (va_runI (As := []) (rest := [.ref h0]) ⟨hx, hb, hml, hown, hts⟩ (c_i6 (D := D) (tyC := tyC) l h0 H.size) (cwI 0 hts (jgood (in_dgw (by decide +kernel) rfl)) rfl rfl rfl (hts0 (.initialized RX6) (by decide +kernel)) (hts0 (.methodLink RL 9 yX6_init) (by decide +kernel)) (hts0 (.instanceMethod yX6_init) (by decide +kernel)) rfl (by decide +kernel) ⟨Nat.le_of_ble_eq_true rfl, Nat.le_of_ble_eq_true rfl⟩) ⟨fun a U g mk q => by obtain ⟨q0, q1, qP, qK, qD, qN0, qN1, qN2, qN3, qN4, qN5, qO3, qO4⟩ := q; exact ⟨q0, q1, qP, va_K.moved (u := U) (U := U.calling g mk a) (Vm.Alike.refl U.vm) qK, qD, qN0.same rfl rfl, qN1.same rfl rfl, qN2.same rfl rfl, qN3.same rfl rfl, qN4.same rfl rfl, qN5.same rfl rfl, va_AO.moved (u := U) (U := U.calling g mk a) (Vm.Alike.refl U.vm) qO3, va_AO.moved (u := U) (U := U.calling g mk a) (Vm.Alike.refl U.vm) qO4⟩, fun U hU hW => ⟨rfl, by rw [hU], by rw [hU]; exact hP, va_K.moved hW.alike hK, hD.weaken (fun _ _ _ _ => trivial), va_Nw.warmM hW (va_Nw.of rfl (hts0 (.methodLinkNest RX5 11 yX3_init "GuardedCode") (by decide +kernel))), va_Nw.warmM hW (va_Nw.of rfl (hts0 (.methodLinkNest RX6 11 yX5_init "GuardedCode") (by decide +kernel))), va_Nw.warmM hW (va_Nw.of rfl (hts0 (.methodLinkNest RX6 18 yX3_init "GuardedCode") (by decide +kernel))), va_Nw.warmM hW (va_Nw.of rfl (hts0 (.methodLinkNest RX6 33 yX0_init "GuardedCode") (by decide +kernel))), va_Nw.warmM hW (va_Nw.of rfl (hts0 (.methodLinkNest RX6 40 yX2_init "GuardedCode") (by decide +kernel))), va_Nw.warmM hW (va_Nw.of rfl (hts0 (.methodLinkNest RX6 54 yX4_init "GuardedCode") (by decide +kernel))), va_AO.moved hW.alike (va_AO.of (hts0 (.arrayOver (.object RX3)) (by decide +kernel))), va_AO.moved hW.alike (va_AO.of (hts0 (.arrayOver (.object RX4)) (by decide +kernel)))⟩⟩ rfl rfl hl.1 rfl (lv_room (Nat.le_of_ble_eq_true rfl)) dL_law_4 ⟨Nat.le_of_ble_eq_true rfl, Nat.le_of_ble_eq_true rfl⟩) hS (fun q _ h => hFc q h) hFc (fun u t H1 locs ht hvm hw hB hz1 hk1 hS => ?_)
  obtain ⟨g0, hg0, hP1, hD1⟩ := hB
  rw [ht] at hP1
  obtain ⟨hP, hD⟩ := va_join (wr := []) (w1 := L56 tyC g0) hP hD [0] [] rfl rfl (by decide) (by decide) hk1 hFc hP1 hD1
  generalize H1 = H at hP hS ⊢
  have hP : va_P D vwCl (L56 tyC g0) H := hP
  have hD : va_D A (L56 tyC g0) := hD
  refine W.widen (k := 56) (n := 1182) (by omega) (by omega) ?_
  refine lv_astore_n (lv' := [(1, .ref h0), (0, .ref b)]) hx hb dL_law_7 rfl hl (by decide) rfl (fun ls hl => ?_)
  refine va_new (ci := 6) (fs := st34) (C := RX7) (T := TX7) (N := 34) hx hb hts (dlay_in (ci := 6) rfl) tyX7 tyX7_ok hown (hts0 (.classLink RL 10 RX7) (by decide +kernel)) (hts0 (.instantiable RX7 34) (by decide +kernel)) (hts0 (.initialized RX7) (by decide +kernel)) hK hP hD hS hA rfl (by decide) (Nat.le_of_ble_eq_true rfl) (Nat.le_of_ble_eq_true rfl) dL_law_8 (fun oM H hP hD hS => ?_)
  rw [stg_L57 (b := b) (adK := adK)] at hP hD
  obtain ⟨g, hg⟩ : ∃ g, g = stg g0 oM b adK := ⟨_, rfl⟩
  have hXt : dXt g adV L xs A s s.heap := hXt0 g (by rw [hg]; rfl) (fun j => by rw [hg]; exact stg_str j)
  have hgM : g 56 = oM := by rw [hg]; rfl
  have hgG : g 0 = h0 := by rw [hg]; exact hg0
  have hgS : g 75 = b := by rw [hg]; rfl
  rw [← hg] at hP hD
  refine W.widen (k := 57) (n := 1216) (by omega) (by omega) ?_
  refine lv_dup hx hb dL_law_11 rfl ?_
  have hFc := va_free (wc := L57 tyC g) hD hS hA (List.range 57) rfl
  have hXc : dXt g adV L xs (va_A (L57 tyC g) H.size) s H := (hXt.kept hS.1 hS.2.1).narrow hFc
  refine va_callv (va_runI (As := []) (rest := [.ref oM]) ⟨hx, hb, hml, hown, hts⟩ (c_i7 (D := D) (tyC := tyC) l g adV L xs H.size) (cwI 0 hts (jgood (in_dgw (by decide +kernel) rfl)) rfl rfl rfl (hts0 (.initialized RX7) (by decide +kernel)) (hts0 (.methodLink RL 12 yX7_init) (by decide +kernel)) (hts0 (.instanceMethod yX7_init) (by decide +kernel)) rfl (by decide +kernel) ⟨Nat.le_of_ble_eq_true rfl, Nat.le_of_ble_eq_true rfl⟩) ⟨fun a U g mk q => by obtain ⟨q0, q1, qP, qK, qD, qX⟩ := q; exact ⟨q0, q1, qP, va_K.moved (u := U) (U := U.calling g mk a) (Vm.Alike.refl U.vm) qK, qD, dXt.same (u := U) (U := U.calling g mk a) rfl qX⟩, fun U hU hW => ⟨by rw [hgM], by rw [hU], by rw [hU]; exact hP, va_K.moved hW.alike hK, hD.weaken (fun _ _ _ _ => trivial), by rw [hU]; exact hXc.warm hW⟩⟩ rfl rfl hl.1 rfl (lv_room (Nat.le_of_ble_eq_true rfl)) dL_law_12 ⟨Nat.le_of_ble_eq_true rfl, Nat.le_of_ble_eq_true rfl⟩) hS (fun q _ h => hFc q h) hFc (fun u t H1 locs ht hvm hw hB hz1 hk1 hS => ?_)
  obtain ⟨ad, σ, had, hP1, hD1, hIv⟩ := hB
  rw [ht] at hP1
  refine W.widen (k := 75) (n := 2430) (by omega) (by omega) ?_
  refine lv_astore_n (lv' := [(2, .ref oM), (1, .ref h0), (0, .ref b)]) hx hb dL_law_15 rfl hl (by decide) rfl (fun ls hl => ?_)
  refine lv_iconst (v := 0) hx hb dL_law_16 (by decide) ?_
  refine lv_istore_n (lv' := [(3, .int 0), (2, .ref oM), (1, .ref h0), (0, .ref b)]) hx hb dL_law_17 rfl hl (by decide) rfl (fun ls hl => ?_)
  have hl : lv_has ls 4 [(0, .ref b), (1, .ref h0), (2, .ref oM), (3, .int 0)] := lv_sub hl [3, 2, 1, 0] rfl
  have hD : va_D A (dws tyC ad σ) := hD1.weaken (fun _ _ _ h => hFc _ h)
  have hXt : dXt ad adV L xs A s s.heap := dXt.cong (fun k hk => had k (Or.inr hk)) hXt
  have hscr : σ dN = .inl (0, L, .inl xs) := by
    obtain ⟨F, A, J, rfl, rfl, -⟩ := hIv
    rfl
  obtain ⟨σ3, hden⟩ := l_law (Lx := L) (xs := xs) (by omega) (L + 1) 0 σ (by omega) (by decide) hIv
  obtain ⟨n, hn⟩ := den_iff.mp hden
  have C : dC0 p room_1 s m #[Value.ref b] c mL_law D tyC ad adV L xs A 75 2430 := ⟨⟨hx, hb, hml, hown, hts⟩, ⟨hK, hXt, hA⟩, rfl, rfl, Nat.le_of_ble_eq_true rfl, Nat.le_of_ble_eq_true rfl⟩
  have hl : lv_has ls (dmaxL mL_law) (dlv ad 0 [some (.ref 75), some (.ref 0), some (.ref 56), some (.int (nI 0))]) := by
    have e0 : ad 75 = b := (had 75 (Or.inr (by decide))).trans hgS
    have e1 : ad 0 = h0 := (had 0 (Or.inl (by decide))).trans hgG
    have e2 : ad 56 = oM := (had 56 (Or.inl (by decide))).trans hgM
    rw [← e0, ← e1, ← e2] at hl
    exact hl
  refine dsim C (fun M1 h1 as σ r σ1 hl hc => dmet_open hprim M1 h1 as σ r σ1 hl hc) n 18 [some (.ref 75), some (.ref 0), some (.ref 56), some (.int (nI 0))] [] σ (some (.int (nI 1))) σ3 hn H1 locs ls ⟨hP1, hD, hS, hscr⟩ hl rfl (fun pc L st H locs ls hst hH => ?_)
  obtain ⟨i, n, hd, hn, he⟩ := dstep_inv hst
  rcases dexec_ret he with ⟨rfl, v, rfl, h1⟩ | ⟨rfl, v, rfl, h1⟩ | ⟨rfl, v, rfl, h1⟩ | ⟨rfl, rfl, h1, h2⟩
  · obtain rfl := eq_of_beq hn
    have h2 : (if v = 0 ∨ v = 1 then some (.inr (.inl (some (.int v)))) else none : Option dO) = some (.inr (.inl (some (.int (nI 1))))) := h1
    have hv : v = 1 := by
      split at h2
      · cases h2; rfl
      · cases h2
    subst hv
    refine va_forget (fun q hq => hAn _ (hH.2.2.1.2.2 q hq)) ?_
    refine W.widen (k := 600000) (n := 7302250) (by omega) (by omega) ?_
    exact lw_ret hx hb hr hlocks hd
  · cases h1
  · cases h1
  · cases h2
set_option maxHeartbeats 4000000 in
theorem lw_walk (l : Launch) (hflags : l.flags = flags0) (b : Addr) (xs : List Int32) : MetFree l x (headSpec (Jvm.Cond.code x code maxLocals ret :: tables_1) room_1) (lw_P b xs) (fun _ _ _ _ _ => True) lw_Q := by
  refine MetFree.of_bodyS (code := code) (maxLocals := maxLocals) (ret := ret) (by decide) ?_ ?_
  · intro args s m h hn
    obtain ⟨meth, c, h1, h2, h3, h4, h5, h6, -, -⟩ := Cond.code_spec hn (atoms_spec (ws := Jvm.Cond.code x code maxLocals ret :: tables_1) h _ List.mem_cons_self)
    exact ⟨meth, c, h1, h2, h3, h4, h5, h6⟩
  · intro p e s m args below meth c s₁ B hml0 hP _
    obtain ⟨rfl, hx, hbd, hgv⟩ := hP
    obtain ⟨scr, harrAt, hlist, hof, hsmall⟩ := hx
    obtain ⟨hcb, hkn, -, -⟩ := State.arrayAt?_spec harrAt
    have hown : s.vm.findClass R_law = some m.cls := findClass_of_methodNamed B.named
    have hts0 : ∀ c ∈ (Jvm.Cond.code x code maxLocals ret :: tables_1), c.before #[Value.ref b] s = true := atoms_spec (ws := Jvm.Cond.code x code maxLocals ret :: tables_1) B.pre
    have hts : ∀ w ∈ lw_tbl, w.before #[Value.ref b] s = true := k2_hts_sels lw_privs (fun w hw => hts0 w (List.mem_cons_of_mem _ hw)) lw_privs_ok
    have hml : c.maxLocals = 4 := B.maxLocals_eq (hts0 _ List.mem_cons_self)
    have X₀ : Stand p l e room_1 s m #[Value.ref b] below meth c s₁ [] 0 0 := Stand.of_body B
    have hh0 : s₁.heap = s.heap := by rw [B.state]; rfl
    have hsz : scr.slots.size = xs.length := by rw [← Array.length_toList, hlist, List.length_map]
    have hval : ∀ j : Nat, j < xs.length → scr.slots[j]? = some (.int (xs.getD j 0)) := fun j hj => by
      rw [← Array.getElem?_toList, hlist]
      simp [hj]
    have hbl : b < s.heap.size := (Array.getElem?_eq_some_iff.mp hcb).1
    have hX : va_X b xs.length (fun j => xs.getD j 0) s s.heap := ⟨scr, hcb, hof, hkn, hsz, hval⟩
    have K : W p l e room_1 s m #[Value.ref b] below meth c s₁.heap [] 0 0 (lw_Z below #[Value.ref b] s) (entryFrame m ([Value.ref b] : List Value).toArray 4) := by
      rw [hh0]
      exact whole_start l hflags hbd ⟨B.exec, B.bytes, B.returns, hml, hown, hts, hX, hbl, B.notSynchronized, hgv⟩
    obtain ⟨t, a1, o, b1, b2, b3⟩ := K s₁ rfl X₀
    exact ⟨t, o, a1, b1, b2, b3⟩
theorem lw_pre_spec {args : Array Value} {s : State} (h : (Jvm.Cond.and given_1 narrow_1).before args s = true) (hr : rest_1_c.before args s = true) : ∃ (b : Addr) (xs : List Int32), lw_P b xs args s := by
  have hs := flat_of_before _ h
  have hq := flat_of_before _ hr
  have hc : (Cond.count 1).before args s = true := hs _ (by decide +kernel)
  have harr : (Cond.arrayOf (.arg 0) .int).before args s = true := hs _ (by decide +kernel)
  have hle : (Cond.le (.length (.arg 0)) (.int 2560)).before args s = true := hs _ (by decide +kernel)
  have hlen : (Cond.isInt (.length (.arg 0))).before args s = true := hq _ (by decide +kernel)
  have hall : (Cond.all (.arg 0) (.isInt (.elem (.arg 0) (.index 0)))).before args s = true := hq _ (by decide +kernel)
  obtain ⟨b, xs, hb, hx⟩ := State.ints_of_pre rfl harr hlen hall
  have hsm : xs.length < 2 ^ 31 := hx.choose_spec.2.2.2
  have hev : (Term.length (.arg 0)).eval args s none [] s = some (.int xs.length.toInt32) := hx.length_eval hb
  have hv := Cond.le_ints hev (show (Term.int 2560).eval args s none [] s = some (.int 2560) from rfl)
  have hd : xs.length.toInt32 ≤ 2560 := by
    simpa [Cond.before, Cond.holds, hv] using hle
  have hN : xs.length ≤ 2560 := (Int32.ofNat_le_ofNat hsm (by decide)).mp (show Int32.ofNat xs.length ≤ Int32.ofNat 2560 from hd)
  exact ⟨b, xs, Cond.one_arg hc (show args[0]? = some (.ref b) from hb), hx, hN, h⟩
theorem lw_comes (l : Launch) (hflags : l.flags = flags0) : Comes l x (Jvm.Cond.code x code maxLocals ret :: tables_1) room_1 (fun tb e args s => Calls_1 tb e args s ∧ rest_1 tb e args s ∧ Pre_1 tb e args s)
    (fun _ _ args s o t => lw_Q args s o t) := by
  intro p e ha hc hk s m args below hf hfit hheap happ hpre
  obtain ⟨b, xs, hP⟩ := lw_pre_spec hpre.2.2 hpre.2.1
  obtain ⟨k, o, h1, h2, h3, hQ⟩ := lw_walk l hflags b xs p e ha hc hk s m args below hf ((Spec.applies_iff_loose hf).mp happ).1 hP trivial
  exact ⟨k, o, h1, h2, h3, hQ⟩
theorem lw_frame {s t : State} {o : Outcome} {args : Array Value} (h : Framed s o t [] 600000 7302250) :
    Framed s o t (fieldLocs frame_1_writes args s ++ arrayLocs frame_1_arrays args s ++ staticLocs frame_1_statics s) 600000 7302250 := h
theorem lw_limb (L : Cond) (hL : ∀ (args : Array Value) (s t : State), L.after args s (.returned (some (.int 1))) t = true) :
    ArmFor flags0 classFile x code maxLocals ret World_1 tables_1 room_1 Calls_1 rest_1 Pre_1
      (fun tb e a s o t => postC L tb e a s o t ∧ Framed s o t (fieldLocs frame_1_writes a s ++ arrayLocs frame_1_arrays a s ++ staticLocs frame_1_statics s) 600000 7302250) := by
  intro l hflags _ _ p e ha hc hk s m args below hf hfit hheap happ hpre
  obtain ⟨k, o, h1, h2, h3, rfl, hF⟩ := lw_comes l hflags p e ha hc hk s m args below hf hfit hheap happ hpre
  exact ⟨k, _, h1, h2, h3, hL args s _, lw_frame hF⟩
theorem i_vc : Claimed_1_1 ∧ Claimed_1_2 := ⟨lw_limb limb_1_1 (fun args s t => by simp [limb_1_1, Cond.after, Cond.holds, Cond.value]), lw_limb limb_1_2 (fun args s t => Cond.after_iff.mpr (by
  first | (rw [show limb_1_2 = Cond.eq .result (.int 1) from rfl, Cond.eq_ints (x := 1) (y := 1) rfl rfl]; simp; done) | (simp [limb_1_2, Cond.value, Term.eval]; done)))⟩

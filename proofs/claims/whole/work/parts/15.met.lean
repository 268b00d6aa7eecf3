theorem dmok_i {M1 : Nat} (hlt : M1 < dlaw) (hpl : (dpl4 M1).1 = 0) : ((plainName (dy M1).cls = true ∧ ((dy M1).cls ≠ "java/lang/invoke/MethodHandle" ∧ (dy M1).cls ≠ "java/lang/invoke/VarHandle")) ∧ dat (dpl4 M1).2.2.2 (.initialized (dy M1).cls) = true) ∧ ((dat (dpl4 M1).2.1 (.instanceMethod (dy M1)) = true ∧ dat (dpl4 M1).2.2.1 (.selects (dy M1).cls (dy M1) (dy M1)) = true) ∧ (parseMethodDescriptor (dy M1).desc).map (fun d => d.parameters.length) = some (dnar M1 - 1)) ∧ 1 ≤ dnar M1 := by
  have h := dmok_at hlt
  unfold dmok dmokN dmokW dmokA at h
  rw [if_neg (by rw [hpl]; decide)] at h
  simpa only [Bool.and_eq_true, decide_eq_true_eq] using h
theorem dmok_s {M1 : Nat} (hlt : M1 < dlaw) (hpl : (dpl4 M1).1 = 1) : ((plainName (dy M1).cls = true ∧ ((dy M1).cls ≠ "java/lang/invoke/MethodHandle" ∧ (dy M1).cls ≠ "java/lang/invoke/VarHandle")) ∧ dat (dpl4 M1).2.2.2 (.initialized (dy M1).cls) = true) ∧ dat (dpl4 M1).2.1 (.static (dy M1)) = true ∧ (parseMethodDescriptor (dy M1).desc).map (fun d => d.parameters.length) = some (dnar M1) := by
  have h := dmok_at hlt
  unfold dmok dmokN dmokW dmokA at h
  rw [if_pos hpl] at h
  simpa only [Bool.and_eq_true, decide_eq_true_eq] using h
section DMET
variable {p : Program} {l : Launch} {e : Env} {R : Room} {s : State} {m : MethodId} {args : Array Value} {below : List Frame} {meth : Method} {c : Code} {cells slots : Nat} {Q : State → Prop}
variable {M : Nat} {D : va_G} {tyC : Nat → ClassId} {ad adV : Nat → Nat} {Lx : Nat} {xs : Nat → Int32} {A : Nat → Prop}
set_option maxHeartbeats 4000000 in
/-- a call of the deep machine is the machine's, by the callee's contract -/
theorem dcallsnd {pc pc' M1 : Nat} {L L' : dL} {st st' as : List Value} {σ σ1 : dS} {r : Option Value} (C : dC0 p R s m args c M D tyC ad adV Lx xs A cells slots) (hst : dstep M pc L st σ = some (.inr (.inr (M1, as, pc', L', st')))) (hM : dMetS l D tyC ad adV Lx xs M1 as σ r σ1) (hscr : σ1 dN = σ dN) {H : Heap} {locs : List Loc} {ls : Array Slot} (h : dHo D tyC ad Lx xs A s σ H locs) (hl : lv_has ls (dmaxL M) (dlv ad 0 L))
    (k : ∀ (H1 : Heap) (locs1 : List Loc), dHo D tyC ad Lx xs A s σ1 H1 locs1 → W p l e R s m args below meth c H1 locs1 cells slots Q (F0 m pc' ls ((r.toList ++ st').map (cv ad)))) :
    W p l e R s m args below meth c H locs cells slots Q (F0 m pc ls (st.map (cv ad))) := by
  obtain ⟨⟨hx, hb, hml, hown, hts⟩, ⟨hK, hXt, hA⟩, hRf, hRl, hRc, hRs⟩ := C
  obtain ⟨i, n, hd, hn, he⟩ := dstep_inv hst
  rcases dexec_call he with ⟨v, rfl⟩ | ⟨v, rfl⟩
  · obtain rfl := eq_of_beq hn
    obtain ⟨f, hf, he1⟩ := Option.bind_eq_some_iff.mp he
    have hok := dlink_ok hf
    have common : ∀ q, drecv st (dnar f.2.1) = some q → dcl M pc f.2.1 L st = some (.inr (.inr (M1, as, pc', L', st'))) → f.2.1 < dlaw → (dpl4 f.2.1).1 = 0 → dat f.2.2 (.methodLink (dcn (down M)) v (dy f.2.1)) = true → (∃ cellB : Cell, H[ad q]? = some cellB ∧ cellB.vm.isStatics = false ∧ s.vm.findClass (dy f.2.1).cls = some cellB.cls) → W p l e R s m args below meth c H locs cells slots Q (F0 m pc ls (st.map (cv ad))) := by
      intro q hq hc hlt hpl hdl hrv
      obtain ⟨c1, c2, c3, c4, c5⟩ := dcl_inv hc
      cases c5
      have hmok := dmok_i hlt hpl
      obtain ⟨⟨⟨hpn, hne⟩, hini⟩, ⟨⟨hinst, hsel⟩, hdesc⟩, hna⟩ := hmok
      obtain ⟨e1, e2⟩ := drecv_some hq c2 hna
      simp only [dcok, Bool.and_eq_true, decide_eq_true_eq] at c1
      have hG : GoodIn dgw (wsV (dcn (down M)) v (dy f.2.1).cls (dy f.2.1) (dwsM f.2.1)) := by
        intro w hw
        rcases List.mem_append.mp hw with h1 | h1
        · have : w ∈ dgw := by
            simp only [List.mem_cons, List.not_mem_nil, or_false] at h1
            rcases h1 with rfl | rfl | rfl | rfl
            · exact dat_in hdl
            · exact dat_in hinst
            · exact dat_in hsel
            · exact dat_in hini
          exact ⟨this, dgw_good this⟩
        · exact dgoodM hlt w h1
      have hM1 := hM H.size
      rw [e2] at hM1
      refine djoin (va_runV (As := (st.take (dnar f.2.1 - 1)).reverse.map (cv ad)) (rest := (st.drop (dnar f.2.1)).map (cv ad)) (b := ad q) (C := (dy f.2.1).cls) ⟨hx, hb, hml, hown, hts⟩ hM1 (cwV (dnar f.2.1 - 1) hts hG rfl rfl rfl ⟨rfl, hne.1, hne.2, hdesc⟩ ⟨by rw [hRf]; exact c1.1.2, by rw [hRl]; exact c1.2⟩) ⟨dblind, hrv, fun U hU hW => ⟨rfl, dpre hK hXt hA h hU hW⟩⟩ rfl (by simp; omega) hl.1 (by
        show st.map (cv ad) = _
        conv => lhs; rw [e1]
        simp [cv]) (lv_room (by rw [cv_cats]; exact c3)) hd ⟨hRc, hRs⟩) hA h hscr (fun H1 locs1 h1 => ?_)
      have := k H1 locs1 h1
      rw [List.map_append] at this
      exact this
    split at he1
    · rename_i h0
      obtain ⟨q, hq, he2⟩ := Option.bind_eq_some_iff.mp he1
      split at he2
      · rename_i hO
        unfold dlok at hok
        dsimp only at hok
        rw [h0] at hok
        simp only [Bool.and_eq_true, decide_eq_true_eq] at hok
        obtain ⟨⟨⟨⟨k1, k2⟩, k3⟩, k4⟩, k5⟩ := hok
        refine common q hq he2 k5 k2 k1 ?_
        unfold disO at hO
        simp only [Bool.and_eq_true, decide_eq_true_eq] at hO
        obtain ⟨hqN, hO⟩ := hO
        split at hO
        · rename_i c0 fs e1
          have e2 : c0 = dci f.2.1 := of_decide_eq_true hO
          subst e2
          obtain ⟨r0, hr0, hr1⟩ := Option.map_eq_some_iff.mp k3
          have hg := dws_get (tyC := tyC) (ad := ad) (σ := σ) hqN
          rw [e1] at hg
          rw [← hr1]
          exact va_recv hK h.1 hr0 hg
        · cases hO
      · cases he2
    · split at he1
      · rename_i h3
        obtain ⟨q, hq, he2⟩ := Option.bind_eq_some_iff.mp he1
        split at he2
        · rename_i hN
          unfold dlok at hok
          dsimp only at hok
          rw [h3] at hok
          simp only [Bool.and_eq_true, decide_eq_true_eq] at hok
          obtain ⟨⟨k1, k2⟩, k3⟩ := hok
          refine common q hq he2 (Nat.lt_trans k3 (by decide)) k2 k1 ?_
          have hS6 := hXt.2.2.1.1
          have hrv := vk_recv (i := q - (dN + 1)) hS6 (by omega) h.2.2.1
          have ecls : (dy f.2.1).cls = "java/lang/String" := by
            have : f.2.1 = 0 ∨ f.2.1 = 1 := by omega
            rcases this with z | z <;> rw [z] <;> decide +kernel
          rw [ecls]
          have eq9 : dN + 1 + (q - (dN + 1)) = q := by omega
          simp only [eq9] at hrv
          exact hrv
        · cases he2
      · cases he1
  · obtain rfl := eq_of_beq hn
    obtain ⟨f, hf, he1⟩ := Option.bind_eq_some_iff.mp he
    have hok := dlink_ok hf
    split at he1
    · rename_i h12
      obtain ⟨c1, c2, c3, c4, c5⟩ := dcl_inv he1
      cases c5
      simp only [dcok, Bool.and_eq_true, decide_eq_true_eq] at c1
      have key : f.2.1 < dlaw ∧ (dpl4 f.2.1).1 = 1 ∧ ((f.1 = 1 ∧ dat f.2.2 (.methodLink (dcn (down M)) v (dy f.2.1)) = true) ∨ (f.1 = 2 ∧ (down M, v, f.2.1) ∈ dnest)) := by
        unfold dlok at hok
        dsimp only at hok
        rcases h12 with z | z <;> rw [z] at hok <;> simp only [Bool.and_eq_true, decide_eq_true_eq] at hok
        · exact ⟨hok.2, hok.1.1.2, Or.inl ⟨z, hok.1.1.1⟩⟩
        · exact ⟨hok.2, hok.1.1.2, Or.inr ⟨z, hok.1.1.1⟩⟩
      obtain ⟨hlt, hpl, hkind⟩ := key
      have hmok := dmok_s hlt hpl
      obtain ⟨⟨⟨hpn, hne⟩, hini⟩, hstat, hdesc⟩ := hmok
      have hstk : st.map (cv ad) = ((st.take (dnar f.2.1)).reverse.map (cv ad)).reverse ++ (st.drop (dnar f.2.1)).map (cv ad) := by
        rw [← List.map_reverse, List.reverse_reverse, ← List.map_append, List.take_append_drop]
      have hlen : ((st.take (dnar f.2.1)).reverse.map (cv ad)).length = dnar f.2.1 := by simp; omega
      have kk : ∀ (H1 : Heap) (locs1 : List Loc), dHo D tyC ad Lx xs A s σ1 H1 locs1 → W p l e R s m args below meth c H1 locs1 cells slots Q (F0 m (pc + 3) ls (r.toList.map (cv ad) ++ (st.drop (dnar f.2.1)).map (cv ad))) := fun H1 locs1 h1 => by
        have := k H1 locs1 h1
        rw [List.map_append] at this
        exact this
      rcases hkind with ⟨z, hdl⟩ | ⟨z, hdl⟩
      · have hG : GoodIn dgw (va_wsS (dcn (down M)) v (dy f.2.1) (dwsM f.2.1)) := by
          intro w hw
          rcases List.mem_append.mp hw with h1 | h1
          · have : w ∈ dgw := by
              simp only [List.mem_cons, List.not_mem_nil, or_false] at h1
              rcases h1 with rfl | rfl | rfl
              · exact dat_in hdl
              · exact dat_in hstat
              · exact dat_in hini
            exact ⟨this, dgw_good this⟩
          · exact dgoodM hlt w h1
        exact djoin (va_runS ⟨hx, hb, hml, hown, hts⟩ (hM H.size) (va_cwS (dnar f.2.1) hts hG rfl rfl rfl ⟨hne.1, hne.2, hdesc⟩ ⟨by rw [hRf]; exact c1.1.2, by rw [hRl]; exact c1.2⟩) ⟨dblind, fun U hU hW => ⟨rfl, dpre hK hXt hA h hU hW⟩⟩ rfl hlen hl.1 hstk (lv_room (by rw [cv_cats]; exact c3)) hd ⟨hRc, hRs⟩) hA h hscr kk
      · exact djoin (va_runSN ⟨hx, hb, hml, hown, hts⟩ (hM H.size) ⟨va_cnB (dnar f.2.1) hts (dgoodM hlt) rfl rfl rfl (hXt.2.1 _ hdl) (hts _ (dat_in hini)) ⟨hne.1, hne.2, hdesc⟩ ⟨by rw [hRf]; exact c1.1.2, by rw [hRl]; exact c1.2⟩, hts _ (dat_in hstat), trivial⟩ ⟨dblind, fun U hU hW => ⟨rfl, dpre hK hXt hA h hU hW⟩⟩ rfl hlen hl.1 hstk (lv_room (by rw [cv_cats]; exact c3)) hd ⟨hRc, hRs⟩) hA h hscr kk
    · split at he1
      · simp [dnx, Option.bind_eq_some_iff] at he1
      · split at he1
        · simp [dnx, Option.bind_eq_some_iff] at he1
        · cases he1
/-- the script's cell is never written -/
theorem dexec_scr {pc pc' : Nat} {i : Instr} {L L' : dL} {st st' : List Value} {σ σ' : dS} (h : dexec M pc i L st σ = some (.inl (pc', L', st', σ'))) : σ' dN = σ dN := by
  cases i with
  | putfield k =>
    obtain ⟨f, -, h1⟩ := Option.bind_eq_some_iff.mp h
    cases st with
    | nil => cases h1
    | cons w r0 =>
      obtain ⟨a, -, h2⟩ := Option.bind_eq_some_iff.mp h1
      obtain ⟨ty, -, h3⟩ := Option.bind_eq_some_iff.mp h2
      by_cases hfit : dfit ty w = true
      · rw [if_pos hfit] at h3
        obtain ⟨σ1, hw, h4⟩ := Option.bind_eq_some_iff.mp h3
        obtain ⟨-, -, -, rfl⟩ := dnx_inv h4
        obtain ⟨hq, fs, -, -, rfl⟩ := dput_some hw
        exact dup1_scr hq
      · rw [if_neg hfit] at h3
        cases h3
  | iastore =>
    obtain ⟨a, -, h1⟩ := Option.bind_eq_some_iff.mp h
    obtain ⟨b, -, h2⟩ := Option.bind_eq_some_iff.mp h1
    obtain ⟨σ1, hw, h3⟩ := Option.bind_eq_some_iff.mp h2
    obtain ⟨-, -, -, rfl⟩ := dnx_inv h3
    obtain ⟨hq, n0, f0, -, -, rfl⟩ := dast_some hw
    exact dup1_scr hq
  | bastore =>
    obtain ⟨a, -, h1⟩ := Option.bind_eq_some_iff.mp h
    obtain ⟨b, -, h2⟩ := Option.bind_eq_some_iff.mp h1
    obtain ⟨σ1, hw, h3⟩ := Option.bind_eq_some_iff.mp h2
    obtain ⟨-, -, -, rfl⟩ := dnx_inv h3
    unfold dbst at hw
    split at hw
    · obtain ⟨hq, n0, f0, -, -, rfl⟩ := dast_some hw
      exact dup1_scr hq
    · obtain ⟨hq, n0, f0, -, -, rfl⟩ := dast_some hw
      exact dup1_scr hq
    · cases hw
  | lastore =>
    obtain ⟨a, -, h1⟩ := Option.bind_eq_some_iff.mp h
    obtain ⟨i, -, h1⟩ := Option.bind_eq_some_iff.mp h1
    obtain ⟨b, -, h2⟩ := Option.bind_eq_some_iff.mp h1
    obtain ⟨σ1, hw, h3⟩ := Option.bind_eq_some_iff.mp h2
    obtain ⟨-, -, -, rfl⟩ := dnx_inv h3
    obtain ⟨hq, n0, f0, -, -, rfl⟩ := dlst_some hw
    exact dup1_scr hq
  | invokestatic k =>
    obtain ⟨f, hf, he⟩ := Option.bind_eq_some_iff.mp h
    split at he
    · have := (dcl_inv he).2.2.2.2; cases this
    · split at he
      · obtain ⟨a, -, he⟩ := Option.bind_eq_some_iff.mp he
        obtain ⟨b, -, he⟩ := Option.bind_eq_some_iff.mp he
        obtain ⟨i, -, he⟩ := Option.bind_eq_some_iff.mp he
        obtain ⟨d, -, he⟩ := Option.bind_eq_some_iff.mp he
        split at he
        · obtain ⟨σ1, hw, he⟩ := Option.bind_eq_some_iff.mp he
          obtain ⟨-, -, -, rfl⟩ := dnx_inv he
          obtain ⟨hq0, hq1, n0, f0, n1, g1, e1, e2, z1, z2, z3, z4, z5, rfl⟩ := dcopy_some hw
          exact dup1_scr hq1
        · cases he
      · split at he
        · obtain ⟨a, -, he⟩ := Option.bind_eq_some_iff.mp he
          split at he
          · obtain ⟨-, -, -, rfl⟩ := dnx_inv he
            rfl
          · cases he
        · cases he
  | invokevirtual k =>
    obtain ⟨f, hf, he⟩ := Option.bind_eq_some_iff.mp h
    split at he
    · obtain ⟨q, hq, he⟩ := Option.bind_eq_some_iff.mp he
      split at he
      · have := (dcl_inv he).2.2.2.2; cases this
      · cases he
    · split at he
      · obtain ⟨q, hq, he⟩ := Option.bind_eq_some_iff.mp he
        split at he
        · have := (dcl_inv he).2.2.2.2; cases this
        · cases he
      · cases he
  | ireturn =>
    simp only [dexec] at h
    split at h
    · unfold dretv at h
      split at h <;> first | cases h | (split at h <;> cases h)
    · cases h
  | lreturn =>
    simp only [dexec] at h
    split at h
    · unfold dretv at h
      split at h <;> first | cases h | (split at h <;> cases h)
    · cases h
  | areturn =>
    simp only [dexec] at h
    split at h
    · unfold dretv at h
      split at h <;> first | cases h | (split at h <;> cases h)
    · cases h
  | return_ =>
    simp only [dexec] at h
    split at h <;> cases h
  | goto off => obtain ⟨-, -, -, rfl⟩ := djump_inv h; rfl
  | ifCond cd off =>
    obtain ⟨a, -, h1⟩ := Option.bind_eq_some_iff.mp h
    obtain ⟨tgt, -, -, -, -, -, rfl⟩ := dbr_inv h1
    rfl
  | if_icmp cd off =>
    obtain ⟨a, -, h1⟩ := Option.bind_eq_some_iff.mp h
    obtain ⟨tgt, -, -, -, -, -, rfl⟩ := dbr_inv h1
    rfl
  | tableswitch d lo hi offs =>
    obtain ⟨a, -, h1⟩ := Option.bind_eq_some_iff.mp h
    split at h1
    · obtain ⟨-, -, -, rfl⟩ := djump_inv h1; rfl
    · obtain ⟨o, -, h2⟩ := Option.bind_eq_some_iff.mp h1
      obtain ⟨-, -, -, rfl⟩ := djump_inv h2; rfl
  | ldc k =>
    simp only [dexec] at h
    split at h
    · obtain ⟨-, -, -, rfl⟩ := dnx_inv h; rfl
    · obtain ⟨a, -, h1⟩ := Option.bind_eq_some_iff.mp h
      obtain ⟨-, -, -, rfl⟩ := dnx_inv h1; rfl
  | dup =>
    cases st with
    | nil => cases h
    | cons a r => simp only [dexec] at h; split at h <;> first | (obtain ⟨-, -, -, rfl⟩ := dnx_inv h; rfl) | cases h
  | pop =>
    cases st with
    | nil => cases h
    | cons a r => simp only [dexec] at h; split at h <;> first | (obtain ⟨-, -, -, rfl⟩ := dnx_inv h; rfl) | cases h
  | dup2 =>
    match st, h with
    | [], h => cases h
    | [a], h => cases h
    | a :: b :: r, h => simp only [dexec] at h; split at h <;> first | (obtain ⟨-, -, -, rfl⟩ := dnx_inv h; rfl) | cases h
  | iaload =>
    obtain ⟨a, -, h1⟩ := Option.bind_eq_some_iff.mp h
    obtain ⟨b, -, h2⟩ := Option.bind_eq_some_iff.mp h1
    split at h2
    · obtain ⟨x, -, h3⟩ := Option.bind_eq_some_iff.mp h2
      obtain ⟨-, -, -, rfl⟩ := dnx_inv h3; rfl
    · cases h2
  | _ =>
    first
      | (obtain ⟨-, -, -, rfl⟩ := dnx_inv h; rfl)
      | exact absurd (show (none : Option dO) = _ from h) (by simp)
      | (obtain ⟨a, -, h1⟩ := Option.bind_eq_some_iff.mp h; obtain ⟨-, -, -, rfl⟩ := dnx_inv h1; rfl)
      | (obtain ⟨a, -, h1⟩ := Option.bind_eq_some_iff.mp h; obtain ⟨b, -, h2⟩ := Option.bind_eq_some_iff.mp h1; obtain ⟨-, -, -, rfl⟩ := dnx_inv h2; rfl)
      | (obtain ⟨a, -, h1⟩ := Option.bind_eq_some_iff.mp h; obtain ⟨b, -, h2⟩ := Option.bind_eq_some_iff.mp h1; obtain ⟨b3, -, h3⟩ := Option.bind_eq_some_iff.mp h2; obtain ⟨-, -, -, rfl⟩ := dnx_inv h3; rfl)
      | (obtain ⟨a, -, h1⟩ := Option.bind_eq_some_iff.mp h; split at h1 <;> first | (obtain ⟨-, -, -, rfl⟩ := dnx_inv h1; rfl) | (cases h1; done))
theorem drun_scr : ∀ (n M pc : Nat) (L : dL) (st : List Value) (σ : dS) (r : Option Value) (σ' : dS), drun n M pc L st σ = some (r, σ') → σ' dN = σ dN := by
  intro n
  induction n with
  | zero => intro M pc L st σ r σ' h; cases h
  | succ n ih =>
    intro M pc L st σ r σ' h
    rw [drun] at h
    cases hs : dstep M pc L st σ with
    | none => rw [hs] at h; cases h
    | some o =>
      rw [hs] at h
      rcases o with ⟨pc', L', st', σ1⟩ | (v | ⟨M', as, pc', L', st'⟩)
      · obtain ⟨i, k, -, -, he⟩ := dstep_inv hs
        rw [ih _ _ _ _ _ _ _ h]
        exact dexec_scr he
      · cases h; rfl
      · dsimp only at h
        by_cases hM : M' < 2
        · rw [if_pos hM] at h
          cases hp : dprm M' as with
          | none => rw [hp] at h; cases h
          | some v => rw [hp] at h; exact ih _ _ _ _ _ _ _ h
        · rw [if_neg hM] at h
          cases hc : drun n M' 0 (dent M' as) [] σ with
          | none => rw [hc] at h; cases h
          | some v =>
            obtain ⟨r1, σ1⟩ := v
            rw [hc] at h
            rw [ih _ _ _ _ _ _ _ h]
            exact ih _ _ _ _ _ _ _ hc
/-- THE SIMULATION: from any frame of the deep machine that comes to an end, the machine comes to a return with the same answer and picture -/
theorem dsim (C : dC0 p R s m args c M D tyC ad adV Lx xs A cells slots) (ihM : ∀ M1, M1 < M → ∀ (as : List Value) (σ : dS) (r : Option Value) (σ1 : dS), (dargs as).length ≤ dmaxL M1 → dcall M1 as σ = some (r, σ1) → dMetS l D tyC ad adV Lx xs M1 as σ r σ1) :
    ∀ (n pc : Nat) (L : dL) (st : List Value) (σ : dS) (r : Option Value) (σ' : dS), drun n M pc L st σ = some (r, σ') → ∀ (H : Heap) (locs : List Loc) (ls : Array Slot), dHo D tyC ad Lx xs A s σ H locs → lv_has ls (dmaxL M) (dlv ad 0 L) → L.length = dmaxL M →
      (∀ (pc : Nat) (L : dL) (st : List Value) (H : Heap) (locs : List Loc) (ls : Array Slot), dstep M pc L st σ' = some (.inr (.inl r)) → dHo D tyC ad Lx xs A s σ' H locs → W p l e R s m args below meth c H locs cells slots Q (F0 m pc ls (st.map (cv ad)))) →
      W p l e R s m args below meth c H locs cells slots Q (F0 m pc ls (st.map (cv ad))) := by
  intro n
  induction n with
  | zero => intro pc L st σ r σ' h; cases h
  | succ n ih =>
    intro pc L st σ r σ' h H locs ls hH hl hLn kret
    rw [drun] at h
    cases hs : dstep M pc L st σ with
    | none => rw [hs] at h; cases h
    | some o =>
      rw [hs] at h
      rcases o with ⟨pc', L', st', σ1⟩ | (v | ⟨M1, as, pc', L', st'⟩)
      · obtain ⟨i, k, hd, hn, he⟩ := dstep_inv hs
        exact dsnd C hd hn he hH hl hLn (fun H1 locs1 ls1 h1 h2 h3 => ih _ _ _ _ _ _ h H1 locs1 ls1 h1 h2 h3 kret)
      · cases h
        exact kret pc L st H locs ls hs hH
      · have hinv : M1 < M ∧ (dargs as).length ≤ dmaxL M1 ∧ L' = L := by
          obtain ⟨i, k, hd, hn, he⟩ := dstep_inv hs
          have fin : ∀ M2, dcl M pc M2 L st = some (.inr (.inr (M1, as, pc', L', st'))) → M1 < M ∧ (dargs as).length ≤ dmaxL M1 ∧ L' = L := by
            intro M2 h2
            obtain ⟨c1, c2, c3, c4, c5⟩ := dcl_inv h2
            cases c5
            simp only [dcok, Bool.and_eq_true, decide_eq_true_eq] at c1
            exact ⟨c1.1.1, c4, rfl⟩
          rcases dexec_call he with ⟨v, rfl⟩ | ⟨v, rfl⟩
          · obtain ⟨f, hf, he1⟩ := Option.bind_eq_some_iff.mp he
            split at he1
            · obtain ⟨q, hq, he2⟩ := Option.bind_eq_some_iff.mp he1
              split at he2
              · exact fin _ he2
              · cases he2
            · split at he1
              · obtain ⟨q, hq, he2⟩ := Option.bind_eq_some_iff.mp he1
                split at he2
                · exact fin _ he2
                · cases he2
              · cases he1
          · obtain ⟨f, hf, he1⟩ := Option.bind_eq_some_iff.mp he
            split at he1
            · exact fin _ he1
            · split at he1
              · simp [dnx, Option.bind_eq_some_iff] at he1
              · split at he1
                · simp [dnx, Option.bind_eq_some_iff] at he1
                · cases he1
        obtain ⟨hM1, hlen, rfl⟩ := hinv
        dsimp only at h
        by_cases hM : M1 < 2
        · rw [if_pos hM] at h
          cases hp : dprm M1 as with
          | none => rw [hp] at h; cases h
          | some v =>
            rw [hp] at h
            exact dcallsnd C hs (ihM M1 hM1 as σ v σ hlen (by unfold dcall; rw [if_pos hM, hp]; rfl)) rfl hH hl (fun H1 locs1 h1 => ih _ _ _ _ _ _ h H1 locs1 ls h1 hl hLn kret)
        · rw [if_neg hM] at h
          cases hc : drun n M1 0 (dent M1 as) [] σ with
          | none => rw [hc] at h; cases h
          | some v =>
            obtain ⟨r1, σ1⟩ := v
            rw [hc] at h
            exact dcallsnd C hs (ihM M1 hM1 as σ r1 σ1 hlen (by unfold dcall; rw [if_neg hM]; exact den_iff.mpr ⟨n, hc⟩)) (drun_scr _ _ _ _ _ _ _ _ hc) hH hl (fun H1 locs1 h1 => ih _ _ _ _ _ _ h H1 locs1 ls h1 hl hLn kret)
end DMET

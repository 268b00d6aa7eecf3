section DALL
variable {l : Launch} {D : va_G} {tyC : Nat → ClassId} {ad adV : Nat → Nat} {Lx : Nat} {xs : Nat → Int32}
theorem dretsnd {p : Program} {e : Env} {R : Room} {s : State} {m : MethodId} {args : Array Value} {below : List Frame} {meth : Method} {c : Code} {M pc : Nat} {L : dL} {st : List Value} {σ : dS} {r : Option Value} {H : Heap} {locs : List Loc} {ls : Array Slot} (hx : p.tables.exec = Jvm.exec) (hb : c.code = dcode M) (hr : meth.sig.returnType = dret M) (hlocks : meth.locks = false) (hst : dstep M pc L st σ = some (.inr (.inl r))) (h : dHo D tyC ad Lx xs (dA ad s.heap.size) s σ H locs) :
    W p l e R s m args below meth c H locs 0 0 (MQ below (dQ D tyC ad s.heap.size r σ) args s 0 0 (dA ad s.heap.size)) (F0 m pc ls (st.map (cv ad))) := by
  obtain ⟨i, n, hd, hn, he⟩ := dstep_inv hst
  rcases dexec_ret he with ⟨rfl, v, rfl, h1⟩ | ⟨rfl, v, rfl, h1⟩ | ⟨rfl, v, rfl, h1⟩ | ⟨rfl, rfl, h1, rfl⟩
  · obtain rfl := eq_of_beq hn
    unfold dretv at h1
    split at h1
    · rename_i x hret hv
      cases hv
      cases h1
      exact W.iret hx hb (hr.trans hret) (fun t ht hW => ⟨⟨v, (), rfl, rfl, by show va_P D vwCl (dws tyC ad σ) t.heap; rw [ht]; exact h.1⟩, h.2.2.1.F ht⟩) h.2.2.1.2.2 hd hlocks
    · rename_i x hret hv
      cases hv
      split at h1
      · rename_i h01
        cases h1
        exact W.zret hx hb (hr.trans hret) (by rcases h01 with rfl | rfl <;> decide) (fun t ht hW => ⟨⟨v, (), rfl, rfl, by show va_P D vwCl (dws tyC ad σ) t.heap; rw [ht]; exact h.1⟩, h.2.2.1.F ht⟩) h.2.2.1.2.2 hd hlocks
      · cases h1
    · rename_i hv; cases hv
    · rename_i hv; cases hv
    · cases h1
  · obtain rfl := eq_of_beq hn
    unfold dretv at h1
    split at h1
    · rename_i hv; cases hv
    · rename_i hv; cases hv
    · rename_i x hret hv
      cases hv
      cases h1
      exact W.lret hx hb (hr.trans hret) (fun t ht hW => ⟨⟨v, (), rfl, rfl, by show va_P D vwCl (dws tyC ad σ) t.heap; rw [ht]; exact h.1⟩, h.2.2.1.F ht⟩) h.2.2.1.2.2 hd hlocks
    · rename_i hv; cases hv
    · cases h1
  · obtain rfl := eq_of_beq hn
    unfold dretv at h1
    split at h1
    · rename_i hv; cases hv
    · rename_i hv; cases hv
    · rename_i hv; cases hv
    · rename_i x hret hv
      cases hv
      cases h1
      exact W.aret hx hb (hr.trans hret) (Or.inl ⟨_, rfl⟩) (Or.inr ⟨_, rfl⟩) (fun t ht hW => ⟨⟨(), ad v, rfl, trivial, rfl, by show va_P D vwCl (dws tyC ad σ) t.heap; rw [ht]; exact h.1⟩, h.2.2.1.F ht⟩) h.2.2.1.2.2 hd hlocks
    · cases h1
  · obtain rfl := eq_of_beq hn
    exact W.vret hx hb (hr.trans h1) (fun t ht hW => ⟨⟨(), rfl, trivial, by show va_P D vwCl (dws tyC ad σ) t.heap; rw [ht]; exact h.1⟩, h.2.2.1.F ht⟩) h.2.2.1.2.2 hd hlocks
/-- the method's own class is what its name says -/
def dyc (M : Nat) : Bool := decide ((dy M).cls = dcn (down M))
set_option maxRecDepth 100000 in
theorem dyc_all : dall 0 dlaw dyc = true := by decide +kernel
/-- EVERY METHOD'S CONTRACT: what the deep machine answers, the machine answers -/
theorem dmet_open (hprim : ∀ M1, M1 < 2 → ∀ (as : List Value) (σ : dS) (r : Option Value), dprm M1 as = some r → dMetS l D tyC ad adV Lx xs M1 as σ r σ) : ∀ M, M < dlaw → ∀ (as : List Value) (σ : dS) (r : Option Value) (σ1 : dS), (dargs as).length ≤ dmaxL M → dcall M as σ = some (r, σ1) → dMetS l D tyC ad adV Lx xs M as σ r σ1 := by
  intro M
  induction M using Nat.strongRecOn with
  | _ M ih =>
    intro hM as σ r σ1 hlen hc
    unfold dcall at hc
    by_cases h2 : M < 2
    · rw [if_pos h2] at hc
      obtain ⟨v, hv, e⟩ := Option.map_eq_some_iff.mp hc
      cases e
      exact hprim M h2 as σ _ hv
    · rw [if_neg h2] at hc
      obtain ⟨n, hn⟩ := den_iff.mp hc
      intro sz
      have hmok := dmok_at hM
      have hpn : plainName (dy M).cls = true := by
        unfold dmok dmokN at hmok
        simp only [Bool.and_eq_true] at hmok
        exact hmok.1.1.1
      refine Met.ofW (cc := dcode M) (maxL := dmaxL M) (ret := dret M) hpn rfl ?_
      intro p e s m args below meth c s₁ B hml hv
      obtain ⟨rfl, hsz, hP, hK, hD0, hXt, hscr⟩ := hv
      have hts0 := atoms_spec (ws := dwsM M) B.pre
      have hts : ∀ w ∈ dgw, w.before (as.map (cv ad)).toArray s = true := fun w hw => hts0 w (List.mem_cons_of_mem _ hw)
      have hown : s.vm.findClass (dcn (down M)) = some m.cls := by
        have e1 : (dy M).cls = dcn (down M) := of_decide_eq_true (dall_at dyc_all (Nat.zero_le M) (by omega))
        rw [← e1]
        exact findClass_of_methodNamed B.named
      subst hsz
      have hDA : va_D (dA ad s.heap.size) (dws tyC ad σ) := ⟨hD0.1, fun k q hk => by
        obtain ⟨h1, rfl⟩ := dws_out hk
        exact Or.inl ⟨k, h1, rfl⟩⟩
      have C : dC0 p (headSpec (dwsM M) (drm M)).room s m (as.map (cv ad)).toArray c M D tyC ad adV Lx xs (dA ad s.heap.size) 0 0 := ⟨⟨B.exec, B.bytes, hml, hown, hts⟩, ⟨hK, hXt, fun q hq => Or.inr hq⟩, rfl, rfl, Nat.zero_le _, Nat.zero_le _⟩
      have hl := lv_entry (as.map (cv ad)) (n := dmaxL M) (by rw [← dargs_len]; exact hlen)
      rw [lg_entry_eq]
      generalize (lg_sl (as.map (cv ad)) ++ List.replicate (dmaxL M - (lg_sl (as.map (cv ad))).length) Slot.unset).toArray = ls at hl ⊢
      have hl2 : lv_has ls (dmaxL M) (dlv ad 0 (dent M as)) := by
        unfold dent
        rw [dlv_app_none, dargs_sub]
        exact hl
      exact dsim C (fun M1 h1 as' σ' r' σ1' hl' hc' => ih M1 h1 (Nat.lt_trans h1 hM) as' σ' r' σ1' hl' hc') n 0 (dent M as) [] σ r σ1 hn s.heap [] ls ⟨hP, hDA, va_S.rf, hscr⟩ hl2 (by unfold dent; rw [List.length_append, List.length_replicate]; omega)
        (fun pc L st H locs ls hst hH => dretsnd B.exec B.bytes B.returns B.notSynchronized hst hH)
end DALL

/-! calls, returns, and every method's contract -/
def dA (ad : Nat → Nat) (sz : Nat) : Nat → Prop := fun q => (∃ k, k < dN ∧ ad k = q) ∨ sz ≤ q
def dPre (D : va_G) (tyC : Nat → ClassId) (ad adV : Nat → Nat) (Lx : Nat) (xs : Nat → Int32) (σ : dS) (sz : Nat) (U : State) : Prop :=
  U.heap.size = sz ∧ va_P D vwCl (dws tyC ad σ) U.heap ∧ va_K D vwCl (dtys tyC) U ∧ va_D (fun _ => True) (dws tyC ad σ) ∧ dXt ad adV Lx xs (dA ad sz) U U.heap ∧ σ dN = .inl (0, Lx, .inl xs)
def dPost (D : va_G) (tyC : Nat → ClassId) (ad : Nat → Nat) (σ : dS) (t : State) : Prop := va_P D vwCl (dws tyC ad σ) t.heap
def dQ (D : va_G) (tyC : Nat → ClassId) (ad : Nat → Nat) (sz : Nat) (r : Option Value) (σ : dS) : Array Value → State → Outcome → State → Prop := match r with
  | none => va_Qv (fun _ : Unit => True) (fun _ t => dPost D tyC ad σ t) (dA ad sz)
  | some (.int v) => va_Qi (fun x (_ : Unit) => x = v) (fun _ t => dPost D tyC ad σ t) (dA ad sz)
  | some (.long v) => va_Ql (fun x (_ : Unit) => x = v) (fun _ t => dPost D tyC ad σ t) (dA ad sz)
  | some (.ref q) => va_Qr (fun _ : Unit => True) (fun _ a t => a = ad q ∧ dPost D tyC ad σ t) (dA ad sz)
  | _ => fun _ _ _ _ => False
def dMetS (l : Launch) (D : va_G) (tyC : Nat → ClassId) (ad adV : Nat → Nat) (Lx : Nat) (xs : Nat → Int32) (M : Nat) (as : List Value) (σ : dS) (r : Option Value) (σ' : dS) : Prop :=
  ∀ sz, Met l (dy M) (dwsM M) (drm M) (va_Pc (as.map (cv ad)) (dPre D tyC ad adV Lx xs σ sz)) (dQ D tyC ad sz r σ') 0 0 (dA ad sz)
theorem dcl_inv {M pc M1 : Nat} {L : dL} {st : List Value} {o : dO} (h : dcl M pc M1 L st = some o) : dcok M M1 = true ∧ dnar M1 ≤ st.length ∧ dcat (st.drop (dnar M1)) ≤ 8 ∧ (dargs (st.take (dnar M1)).reverse).length ≤ dmaxL M1 ∧ o = .inr (.inr (M1, (st.take (dnar M1)).reverse, pc + 3, L, st.drop (dnar M1))) := by
  unfold dcl at h
  split at h
  · rename_i hc
    exact ⟨hc.1, hc.2.1, hc.2.2.1, hc.2.2.2, (Option.some.inj h).symm⟩
  · cases h
theorem dstep_inv {M pc : Nat} {L : dL} {st : List Value} {σ : dS} {o : dO} (h : dstep M pc L st σ = some o) : ∃ i n, decode (dcode M) pc = .ok (i, n) ∧ dlen i n = true ∧ dexec M pc i L st σ = some o := by
  unfold dstep at h
  split at h
  · rename_i i n hd
    split at h
    · exact ⟨i, n, hd, by assumption, h⟩
    · cases h
  · cases h
theorem djump_no {pc : Nat} {off : Int} {L : dL} {st : List Value} {σ : dS} {y : (Option Value) ⊕ (Nat × List Value × Nat × dL × List Value)} (h : djump pc off L st σ = some (.inr y)) : False := by
  unfold djump at h
  split at h <;> cases h
theorem dtsw_no {M pc : Nat} {d lo hi : Int} {offs : Array Int} {L : dL} {st : List Value} {σ : dS} {y : (Option Value) ⊕ (Nat × List Value × Nat × dL × List Value)} (h : dexec M pc (.tableswitch d lo hi offs) L st σ = some (.inr y)) : False := by
  obtain ⟨a, -, h1⟩ := Option.bind_eq_some_iff.mp h
  split at h1
  · exact djump_no h1
  · obtain ⟨o, -, h2⟩ := Option.bind_eq_some_iff.mp h1
    exact djump_no h2
set_option maxHeartbeats 4000000 in
theorem dexec_call {M pc : Nat} {i : Instr} {L : dL} {st : List Value} {σ : dS} {x : Nat × List Value × Nat × dL × List Value} (h : dexec M pc i L st σ = some (.inr (.inr x))) : (∃ k, i = .invokevirtual k) ∨ ∃ k, i = .invokestatic k := by
  cases i <;> first
    | exact Or.inl ⟨_, rfl⟩
    | exact Or.inr ⟨_, rfl⟩
    | exact absurd (show (none : Option dO) = _ from h) (by simp)
    | exact (dtsw_no h).elim
    | (exfalso; simp [dexec, dnx, djump, dbr, Option.bind_eq_some_iff] at h; done)
    | (exfalso; simp only [dexec] at h; split at h <;> simp [dnx, Option.bind_eq_some_iff] at h; done)
    | (exfalso; simp only [dexec] at h; split at h <;> first | (cases h; done) | (unfold dretv at h; split at h <;> first | (cases h; done) | (split at h <;> cases h)))
theorem dexec_ret {M pc : Nat} {i : Instr} {L : dL} {st : List Value} {σ : dS} {r : Option Value} (h : dexec M pc i L st σ = some (.inr (.inl r))) : (i = .ireturn ∧ ∃ v, st = [.int v] ∧ dretv M (.int v) = some (.inr (.inl r))) ∨ (i = .lreturn ∧ ∃ v, st = [.long v] ∧ dretv M (.long v) = some (.inr (.inl r))) ∨ (i = .areturn ∧ ∃ v, st = [.ref v] ∧ dretv M (.ref v) = some (.inr (.inl r))) ∨ (i = .return_ ∧ st = [] ∧ dret M = none ∧ r = none) := by
  cases i with
  | ireturn =>
    simp only [dexec] at h
    split at h
    · exact Or.inl ⟨rfl, _, rfl, h⟩
    · cases h
  | lreturn =>
    simp only [dexec] at h
    split at h
    · exact Or.inr (Or.inl ⟨rfl, _, rfl, h⟩)
    · cases h
  | areturn =>
    simp only [dexec] at h
    split at h
    · exact Or.inr (Or.inr (Or.inl ⟨rfl, _, rfl, h⟩))
    · cases h
  | return_ =>
    simp only [dexec] at h
    split at h
    · rename_i h1
      cases h
      exact Or.inr (Or.inr (Or.inr ⟨rfl, rfl, h1, rfl⟩))
    · cases h
  | invokevirtual k =>
    exfalso
    obtain ⟨f, -, h1⟩ := Option.bind_eq_some_iff.mp h
    split at h1
    · obtain ⟨q, -, h2⟩ := Option.bind_eq_some_iff.mp h1
      split at h2
      · have := (dcl_inv h2).2.2.2.2; cases this
      · cases h2
    · split at h1
      · obtain ⟨q, -, h2⟩ := Option.bind_eq_some_iff.mp h1
        split at h2
        · have := (dcl_inv h2).2.2.2.2; cases this
        · cases h2
      · cases h1
  | invokestatic k =>
    exfalso
    obtain ⟨f, -, h1⟩ := Option.bind_eq_some_iff.mp h
    split at h1
    · have := (dcl_inv h1).2.2.2.2; cases this
    · split at h1
      · simp [dnx, Option.bind_eq_some_iff] at h1
      · split at h1
        · simp [dnx, Option.bind_eq_some_iff] at h1
        · cases h1
  | tableswitch d lo hi offs => exact (dtsw_no h).elim
  | ldc k =>
    exfalso
    simp only [dexec] at h
    split at h <;> simp [dnx, Option.bind_eq_some_iff] at h
  | dup =>
    exfalso
    simp only [dexec] at h
    split at h <;> simp [dnx] at h
  | dup2 =>
    exfalso
    simp only [dexec] at h
    split at h <;> simp [dnx] at h
  | pop =>
    exfalso
    simp only [dexec] at h
    split at h <;> simp [dnx] at h
  | putfield k =>
    exfalso
    obtain ⟨f, -, h1⟩ := Option.bind_eq_some_iff.mp h
    cases st with
    | nil => cases h1
    | cons a r => simp [dnx, Option.bind_eq_some_iff] at h1
  | _ =>
    exfalso
    first
      | exact absurd (show (none : Option dO) = _ from h) (by simp)
      | (simp [dexec, dnx, djump, dbr, Option.bind_eq_some_iff] at h; done)

section DCALL
variable {p : Program} {l : Launch} {e : Env} {R : Room} {s : State} {m : MethodId} {args : Array Value} {below : List Frame} {meth : Method} {c : Code} {cells slots : Nat} {Q : State → Prop}
variable {M : Nat} {D : va_G} {tyC : Nat → ClassId} {ad adV : Nat → Nat} {Lx : Nat} {xs : Nat → Int32} {A : Nat → Prop}
theorem dA_in {σ : dS} {H : Heap} {locs : List Loc} (hA : ∀ q, s.heap.size ≤ q → A q) (h : dHo D tyC ad Lx xs A s σ H locs) : ∀ q, dA ad H.size q → A q := by
  rintro q (⟨k, hk, rfl⟩ | hq)
  · exact h.2.1.2 k _ (dws_get hk)
  · exact hA q (Nat.le_trans h.2.2.1.1 hq)
theorem djoin {σ σ1 : dS} {H : Heap} {locs : List Loc} {ls : Array Slot} {pc : Nat} {st0 rest : List Value} {r : Option Value} {a : Array Value} (hr : va_Run p l e R s m args below meth c H locs cells slots 0 0 (F0 m pc ls st0) rest (dQ D tyC ad H.size r σ1 a) (dA ad H.size)) (hA : ∀ q, s.heap.size ≤ q → A q) (h : dHo D tyC ad Lx xs A s σ H locs) (hscr : σ1 dN = σ dN)
    (k : ∀ (H1 : Heap) (locs1 : List Loc), dHo D tyC ad Lx xs A s σ1 H1 locs1 → W p l e R s m args below meth c H1 locs1 cells slots Q (F0 m (pc + 3) ls (r.toList.map (cv ad) ++ rest))) : W p l e R s m args below meth c H locs cells slots Q (F0 m pc ls st0) := by
  have hin := dA_in hA h
  have fin : ∀ (t : State) (H1 : Heap) (locs1 : List Loc), t.heap = H1 → dPost D tyC ad σ1 t → va_S A s.heap H1 locs1 → dHo D tyC ad Lx xs A s σ1 H1 locs1 := fun t H1 locs1 ht hB hS => ⟨by rw [← ht]; exact hB, dws_D h.2.1 (fun _ _ q => q), hS, hscr.trans h.2.2.2⟩
  match r, hr, k with
  | none, hr, k => exact va_callv (a := a) hr h.2.2.1 (fun q _ z => hin q z) hin (fun u t H1 locs1 ht _ _ hB _ _ hS => k H1 locs1 (fin t H1 locs1 ht hB hS))
  | some (.int v), hr, k => exact va_calli (a := a) hr h.2.2.1 (fun q _ z => hin q z) hin (fun r u t H1 locs1 ht _ hp hB _ _ hS => by rw [show r = v from hp]; exact k H1 locs1 (fin t H1 locs1 ht hB hS))
  | some (.long v), hr, k => exact va_calll (a := a) hr h.2.2.1 (fun q _ z => hin q z) hin (fun r u t H1 locs1 ht _ hp hB _ _ hS => by rw [show r = v from hp]; exact k H1 locs1 (fin t H1 locs1 ht hB hS))
  | some (.ref q), hr, k => exact va_callr (a := a) hr h.2.2.1 (fun q _ z => hin q z) hin (fun u ra t H1 locs1 ht _ _ hB _ _ hS => by rw [show ra = ad q from hB.1]; exact k H1 locs1 (fin t H1 locs1 ht hB.2 hS))
  | some (.float v), hr, k =>
    intro T hT X
    obtain ⟨v, st₀, t, T', L, h0, X', hL, e1, e2, z, st⟩ := hr T hT X
    exact z.elim
  | some (.double v), hr, k =>
    intro T hT X
    obtain ⟨v, st₀, t, T', L, h0, X', hL, e1, e2, z, st⟩ := hr T hT X
    exact z.elim
  | some .null, hr, k =>
    intro T hT X
    obtain ⟨v, st₀, t, T', L, h0, X', hL, e1, e2, z, st⟩ := hr T hT X
    exact z.elim
  | some (.retAddr v), hr, k =>
    intro T hT X
    obtain ⟨v, st₀, t, T', L, h0, X', hL, e1, e2, z, st⟩ := hr T hT X
    exact z.elim
theorem dgoodM {M1 : Nat} (h : M1 < dlaw) : GoodIn dgw (dwsM M1) := by
  intro w hw
  rcases List.mem_cons.mp hw with rfl | hw
  · have h1 : Cond.code (dy M1) (dcode M1) (dmaxL M1) (dret M1) ∈ dgw := List.mem_filter.mpr ⟨List.mem_of_getElem? (dcw_at h), rfl⟩
    exact ⟨h1, dgw_good h1⟩
  · exact ⟨hw, dgw_good hw⟩
theorem dblind {σ : dS} {sz : Nat} {as : List Value} : FrameBlind (va_Pc as (dPre D tyC ad adV Lx xs σ sz)) := by
  intro a U g mk q
  obtain ⟨q0, q1, qP, qK, qD, qX, qS⟩ := q
  exact ⟨q0, q1, qP, va_K.moved (u := U) (U := U.calling g mk a) (Vm.Alike.refl U.vm) qK, qD, qX.same (U := U.calling g mk a) rfl, qS⟩
theorem dpre {σ : dS} {H : Heap} {locs : List Loc} (hK : va_K D vwCl (dtys tyC) s) (hXt : dXt ad adV Lx xs A s s.heap) (hA : ∀ q, s.heap.size ≤ q → A q) (h : dHo D tyC ad Lx xs A s σ H locs) {U : State} (hU : U.heap = H) (hW : s.WarmedH U.vm) : dPre D tyC ad adV Lx xs σ H.size U := by
  refine ⟨by rw [hU], by rw [hU]; exact h.1, va_K.moved hW.alike hK, h.2.1.weaken (fun _ _ _ _ => trivial), ?_, h.2.2.2⟩
  rw [hU]
  exact ((hXt.kept h.2.2.1.1 h.2.2.1.2.1).narrow (dA_in hA h)).warm hW
theorem drecv_some {st : List Value} {n q : Nat} (h : drecv st n = some q) (hn : n ≤ st.length) (h1 : 1 ≤ n) : st = st.take (n - 1) ++ .ref q :: st.drop n ∧ (st.take n).reverse = .ref q :: (st.take (n - 1)).reverse := by
  unfold drecv at h
  split at h
  · rename_i hs
    cases h
    have hlt : n - 1 < st.length := by omega
    have e1 : st[n - 1] = .ref q := by
      rw [List.getElem?_eq_getElem hlt] at hs
      exact Option.some.inj hs
    have e2 : st.drop (n - 1) = .ref q :: st.drop n := by
      rw [List.drop_eq_getElem_cons hlt, e1, show n - 1 + 1 = n by omega]
    have e3 : st.take n = st.take (n - 1) ++ [.ref q] := by
      have := List.take_succ_eq_append_getElem hlt
      rw [show n - 1 + 1 = n by omega, e1] at this
      exact this
    refine ⟨?_, by rw [e3]; simp⟩
    rw [← e2, List.take_append_drop]
  · cases h
end DCALL

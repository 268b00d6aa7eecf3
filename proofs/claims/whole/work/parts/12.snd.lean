/-! every step of the deep machine is the machine's -/
def dslen : List Nat := [3, 3, 3, 3, 3, 2]
/-- what the methods read beside the cells: the script, nest mates' links, the six texts, two statics of the JDK -/
def dXt (ad adV : Nat → Nat) (Lx : Nat) (xs : Nat → Int32) (A : Nat → Prop) (U : State) (H : Heap) : Prop :=
  (va_X (ad dN) Lx xs U H ∧ ad dN < H.size ∧ ¬ A (ad dN)) ∧ (∀ q ∈ dnest, va_Nw (.methodLinkNest (dcn q.1) q.2.1 (dy q.2.2) "GuardedCode") U) ∧
  (vk_S 6 dslen dstr (fun j => ad (dN + 1 + j)) adV A U H ∧ ∀ (j c i : Nat) (t : String), dsrT[j]? = some (c, i, t) → vk_R (dcn c) i t (ad (dN + 1 + j)) U) ∧
  va_Z "java/lang/String" "COMPACT_STRINGS" "Z" (.int 1) A U H ∧ va_Zq "jdk/internal/util/Preconditions" "SIOOBE_FORMATTER" "Ljava/util/function/BiFunction;" A U H
theorem dXt.same {ad adV : Nat → Nat} {Lx : Nat} {xs : Nat → Int32} {A : Nat → Prop} {u U : State} {H : Heap} (hv : U.vm = u.vm) (h : dXt ad adV Lx xs A u H) : dXt ad adV Lx xs A U H := by
  obtain ⟨⟨h1, h2, h3⟩, h4, ⟨h5, h6⟩, h7, h8⟩ := h
  have ha : u.vm.Alike U.vm := by rw [hv]; exact Vm.Alike.refl u.vm
  exact ⟨⟨h1.moved ha, h2, h3⟩, fun q hq => va_Nw.same rfl hv.symm (h4 q hq), ⟨h5.moved ha, fun j c i t hj => (h6 j c i t hj).same hv⟩, h7.moved ha, h8.moved ha⟩
theorem dXt.warm {ad adV : Nat → Nat} {Lx : Nat} {xs : Nat → Int32} {A : Nat → Prop} {s U : State} {H : Heap} (hW : s.WarmedH U.vm) (h : dXt ad adV Lx xs A s H) : dXt ad adV Lx xs A U H := by
  obtain ⟨⟨h1, h2, h3⟩, h4, ⟨h5, h6⟩, h7, h8⟩ := h
  exact ⟨⟨h1.moved hW.alike, h2, h3⟩, fun q hq => va_Nw.warmM hW (h4 q hq), ⟨h5.moved hW.alike, fun j c i t hj => (h6 j c i t hj).warm hW⟩, h7.moved hW.alike, h8.moved hW.alike⟩
theorem dXt.kept {ad adV : Nat → Nat} {Lx : Nat} {xs : Nat → Int32} {A : Nat → Prop} {U : State} {H H1 : Heap} (h : dXt ad adV Lx xs A U H) (hz : H.size ≤ H1.size) (hq : ∀ a : Nat, a < H.size → ¬ A a → H1[a]? = H[a]?) : dXt ad adV Lx xs A U H1 := by
  obtain ⟨⟨h1, h2, h3⟩, h4, ⟨h5, h6⟩, h7, h8⟩ := h
  exact ⟨⟨h1.kept (hq _ h2 h3), Nat.lt_of_lt_of_le h2 hz, h3⟩, h4, ⟨h5.kept hq, h6⟩, h7.kept hq, h8.kept hq⟩
theorem dXt.narrow {ad adV : Nat → Nat} {Lx : Nat} {xs : Nat → Int32} {A B : Nat → Prop} {U : State} {H : Heap} (h : dXt ad adV Lx xs A U H) (hAB : ∀ q, B q → A q) : dXt ad adV Lx xs B U H := by
  obtain ⟨⟨h1, h2, h3⟩, h4, ⟨h5, h6⟩, h7, h8⟩ := h
  exact ⟨⟨h1, h2, fun q => h3 (hAB _ q)⟩, h4, ⟨h5.narrow hAB, h6⟩, h7.narrow hAB, h8.narrow hAB⟩
/-- what stays through a method: the machine, its code, the tables' words, the room -/
def dC0 (p : Program) (R : Room) (s : State) (m : MethodId) (args : Array Value) (c : Code) (M : Nat) (D : va_G) (tyC : Nat → ClassId) (ad adV : Nat → Nat) (Lx : Nat) (xs : Nat → Int32) (A : Nat → Prop) (cells slots : Nat) : Prop :=
  (p.tables.exec = Jvm.exec ∧ c.code = dcode M ∧ c.maxLocals = dmaxL M ∧ s.vm.findClass (dcn (down M)) = some m.cls ∧ ∀ w ∈ dgw, w.before args s = true) ∧
  (va_K D vwCl (dtys tyC) s ∧ dXt ad adV Lx xs A s s.heap ∧ ∀ q, s.heap.size ≤ q → A q) ∧ R.frames = dfrm M ∧ R.locals = dlcl M ∧ cells ≤ R.cells ∧ slots ≤ R.slots
/-- what changes: the heap holds the picture -/
def dHo (D : va_G) (tyC : Nat → ClassId) (ad : Nat → Nat) (Lx : Nat) (xs : Nat → Int32) (A : Nat → Prop) (s : State) (σ : dS) (H : Heap) (locs : List Loc) : Prop :=
  va_P D vwCl (dws tyC ad σ) H ∧ va_D A (dws tyC ad σ) ∧ va_S A s.heap H locs ∧ σ dN = .inl (0, Lx, .inl xs)
theorem dnx_inv {pc pc' : Nat} {L L' : dL} {st st' : List Value} {σ σ' : dS} (h : dnx pc L st σ = some (.inl (pc', L', st', σ'))) : pc = pc' ∧ L = L' ∧ st = st' ∧ σ = σ' := by
  cases h
  exact ⟨rfl, rfl, rfl, rfl⟩
theorem djump_inv {pc pc' : Nat} {off : Int} {L L' : dL} {st st' : List Value} {σ σ' : dS} (h : djump pc off L st σ = some (.inl (pc', L', st', σ'))) : (pc : Int) + off = (pc' : Int) ∧ L = L' ∧ st = st' ∧ σ = σ' := by
  unfold djump at h
  split at h <;> cases h
  rename_i h0
  exact ⟨(Int.toNat_of_nonneg h0).symm, rfl, rfl, rfl⟩
theorem dbr_inv {b : Bool} {pc pc' : Nat} {off : Int} {L L' : dL} {st st' : List Value} {σ σ' : dS} (h : dbr b pc off L st σ = some (.inl (pc', L', st', σ'))) : ∃ tgt : Nat, (pc : Int) + off = (tgt : Int) ∧ (b = true → tgt = pc') ∧ (b = false → pc + 3 = pc') ∧ L = L' ∧ st = st' ∧ σ = σ' := by
  unfold dbr at h
  split at h
  · rename_i h0
    obtain ⟨h1, h2, h3, h4⟩ := dnx_inv h
    refine ⟨((pc : Int) + off).toNat, (Int.toNat_of_nonneg h0).symm, fun hb => ?_, fun hb => ?_, h2, h3, h4⟩
    · rw [if_pos hb] at h1; exact h1
    · rw [if_neg (by simp [hb])] at h1; exact h1
  · cases h
theorem dix_some {i : Int32} {n j : Nat} (h : dix i n = some j) : vp_in i n ∧ j = i.toNatClampNeg := by
  unfold dix at h
  split at h <;> cases h
  exact ⟨by assumption, rfl⟩
theorem dai_some {σ : dS} {q t n : Nat} {f : Nat → Int32} (h : dai σ q t = some (n, f)) : σ q = .inl (t, n, .inl f) := by
  unfold dai at h
  split at h
  · rename_i e
    split at h <;> cases h
    rename_i e2
    rw [e, e2]
  · cases h
theorem dal_some {σ : dS} {q t n : Nat} {f : Nat → Int64} (h : dal σ q t = some (n, f)) : σ q = .inl (t, n, .inr (.inl f)) := by
  unfold dal at h
  split at h
  · rename_i e
    split at h <;> cases h
    rename_i e2
    rw [e, e2]
  · cases h
theorem dar_some {σ : dS} {q t n : Nat} {f : Nat → Option Nat} (h : dar σ q = some (t, n, f)) : σ q = .inl (t, n, .inr (.inr (.inr (.inr f)))) := by
  unfold dar at h
  split at h <;> cases h
  assumption
theorem dald_some {σ : dS} {q t : Nat} {i x : Int32} (h : dald σ q t i = some x) : ∃ n f, σ q = .inl (t, n, .inl f) ∧ vp_in i n ∧ x = f i.toNatClampNeg := by
  obtain ⟨⟨n, f⟩, h1, h2⟩ := Option.bind_eq_some_iff.mp h
  obtain ⟨j, h3, h4⟩ := Option.bind_eq_some_iff.mp h2
  obtain ⟨h5, rfl⟩ := dix_some h3
  cases h4
  exact ⟨n, f, dai_some h1, h5, rfl⟩
theorem dast_some {σ σ' : dS} {q t : Nat} {i x : Int32} (h : dast σ q t i x = some σ') : q < dN ∧ ∃ n f, σ q = .inl (t, n, .inl f) ∧ vp_in i n ∧ σ' = dup1 σ q (.inl (t, n, .inl (upd f i.toNatClampNeg x))) := by
  unfold dast at h
  split at h
  · rename_i hq
    obtain ⟨⟨n, f⟩, h1, h2⟩ := Option.bind_eq_some_iff.mp h
    obtain ⟨j, h3, h4⟩ := Option.bind_eq_some_iff.mp h2
    obtain ⟨h5, rfl⟩ := dix_some h3
    cases h4
    exact ⟨hq, n, f, dai_some h1, h5, rfl⟩
  · cases h
theorem dlld_some {σ : dS} {q : Nat} {i : Int32} {x : Int64} (h : dlld σ q i = some x) : q < dN ∧ ∃ n f, σ q = .inl (3, n, .inr (.inl f)) ∧ vp_in i n ∧ x = f i.toNatClampNeg := by
  unfold dlld at h
  split at h
  · rename_i hq
    obtain ⟨⟨n, f⟩, h1, h2⟩ := Option.bind_eq_some_iff.mp h
    obtain ⟨j, h3, h4⟩ := Option.bind_eq_some_iff.mp h2
    obtain ⟨h5, rfl⟩ := dix_some h3
    cases h4
    exact ⟨hq, n, f, dal_some h1, h5, rfl⟩
  · cases h
theorem dlst_some {σ σ' : dS} {q : Nat} {i : Int32} {x : Int64} (h : dlst σ q i x = some σ') : q < dN ∧ ∃ n f, σ q = .inl (3, n, .inr (.inl f)) ∧ vp_in i n ∧ σ' = dup1 σ q (.inl (3, n, .inr (.inl (vp_updL f i.toNatClampNeg x)))) := by
  unfold dlst at h
  split at h
  · rename_i hq
    obtain ⟨⟨n, f⟩, h1, h2⟩ := Option.bind_eq_some_iff.mp h
    obtain ⟨j, h3, h4⟩ := Option.bind_eq_some_iff.mp h2
    obtain ⟨h5, rfl⟩ := dix_some h3
    cases h4
    exact ⟨hq, n, f, dal_some h1, h5, rfl⟩
  · cases h
theorem drld_some {σ : dS} {q : Nat} {i : Int32} {v : Value} (h : drld σ q i = some v) : q < dN ∧ ∃ t n f, (t = 4 ∨ t = 5) ∧ σ q = .inl (t, n, .inr (.inr (.inr (.inr f)))) ∧ vp_in i n ∧ v = va_rf (f i.toNatClampNeg) := by
  unfold drld at h
  split at h
  · rename_i hq
    obtain ⟨⟨t, n, f⟩, h1, h2⟩ := Option.bind_eq_some_iff.mp h
    dsimp only at h2
    split at h2
    · rename_i ht
      obtain ⟨j, h3, h4⟩ := Option.bind_eq_some_iff.mp h2
      obtain ⟨h5, rfl⟩ := dix_some h3
      cases h4
      exact ⟨hq, t, n, f, ht, dar_some h1, h5, rfl⟩
    · cases h2
  · cases h
theorem dtag_some {σ : dS} {q t n : Nat} (h : dtag σ q = some (t, n)) : ∃ a, σ q = .inl (t, a) ∧ a.1 = n ∧ t < 6 := by
  unfold dtag at h
  split at h
  · rename_i e
    split at h <;> cases h
    exact ⟨_, e, rfl, by assumption⟩
  · cases h
theorem dget_some {σ : dS} {q ci k : Nat} {v : Value} (h : dget σ q ci k = some v) : q < dN ∧ ∃ fs, σ q = .inr (ci, fs) ∧ fs[k]? = some v := by
  unfold dget at h
  split at h
  · rename_i hq
    split at h
    · rename_i e
      split at h
      · rename_i e2
        exact ⟨hq, _, by rw [e, e2], h⟩
      · cases h
    · cases h
  · cases h
theorem dput_some {σ σ' : dS} {q ci k : Nat} {v : Value} (h : dput σ q ci k v = some σ') : q < dN ∧ ∃ fs, σ q = .inr (ci, fs) ∧ k < fs.length ∧ σ' = dup1 σ q (.inr (ci, fs.set k v)) := by
  unfold dput at h
  split at h
  · rename_i hq
    split at h
    · rename_i e
      split at h
      · rename_i e2
        cases h
        exact ⟨hq, _, by rw [e, e2.1], e2.2, by rw [e2.1]⟩
      · cases h
    · cases h
  · cases h
theorem dcopy_some {σ σ' : dS} {q0 q1 : Nat} {sp dp n : Int32} (h : dcopy σ q0 sp q1 dp n = some σ') : q0 < dN ∧ q1 < dN ∧ ∃ n0 f n1 g, σ q0 = .inl (0, n0, .inl f) ∧ σ q1 = .inl (0, n1, .inl g) ∧ ¬ sp < 0 ∧ ¬ dp < 0 ∧ ¬ n < 0 ∧ sp.toNatClampNeg + n.toNatClampNeg ≤ n0 ∧ dp.toNatClampNeg + n.toNatClampNeg ≤ n1 ∧ σ' = dup1 σ q1 (.inl (0, n1, .inl (va_cpy f g sp.toNatClampNeg dp.toNatClampNeg n.toNatClampNeg))) := by
  unfold dcopy at h
  split at h
  · rename_i hq
    obtain ⟨⟨n0, f⟩, h1, h2⟩ := Option.bind_eq_some_iff.mp h
    obtain ⟨⟨n1, g⟩, h3, h4⟩ := Option.bind_eq_some_iff.mp h2
    dsimp only at h4
    split at h4
    · cases h4
    · rename_i hc
      cases h4
      refine ⟨hq.1, hq.2, n0, f, n1, g, dai_some h1, dai_some h3, fun z => hc (Or.inl (Or.inl z)), fun z => hc (Or.inl (Or.inr (Or.inl z))), fun z => hc (Or.inl (Or.inr (Or.inr z))), Nat.le_of_not_lt fun z => hc (Or.inr (Or.inl z)), Nat.le_of_not_lt fun z => hc (Or.inr (Or.inr z)), rfl⟩
  · cases h
theorem dup1_scr {σ : dS} {q : Nat} {e : dE} (h : q < dN) : dup1 σ q e dN = σ dN := by
  unfold dup1
  rw [if_neg (by omega)]
theorem dsr_some {c i j : Nat} (h : dsr c i = some j) : ∃ t, dsrT[j]? = some (c, i, t) := by
  obtain ⟨h1, h2, -⟩ := List.findIdx?_eq_some_iff_getElem.mp h
  simp only [Bool.and_eq_true, beq_iff_eq] at h2
  refine ⟨dsrT[j].2.2, ?_⟩
  rw [List.getElem?_eq_getElem h1, ← h2.1, ← h2.2]
theorem dfit_ok {ty : FieldType} {v : Value} (ad : Nat → Nat) (h : dfit ty v = true) : cv ad v = v ∧ narrow ty v = v ∧ fits ty v = true := by
  unfold dfit at h
  split at h
  · exact ⟨rfl, rfl, rfl⟩
  · exact ⟨rfl, rfl, rfl⟩
  · rename_i x
    simp only [Bool.or_eq_true, beq_iff_eq] at h
    rcases h with rfl | rfl
    · exact ⟨rfl, by decide, by decide⟩
    · exact ⟨rfl, by decide, by decide⟩
  · cases h

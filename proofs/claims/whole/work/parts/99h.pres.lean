/-! no call writes the script, none changes what is an object of which class -/
def dq (σ τ : dS) : Prop := τ dN = σ dN ∧ ∀ q ci, disO τ q ci = disO σ q ci
theorem dq_refl (σ : dS) : dq σ σ := ⟨rfl, fun _ _ => rfl⟩
theorem dq.tr {a b c : dS} (h1 : dq a b) (h2 : dq b c) : dq a c := ⟨h2.1.trans h1.1, fun q ci => (h2.2 q ci).trans (h1.2 q ci)⟩
theorem dup1_qI {σ : dS} {q : Nat} {e : dE} (hq : q < dN) (h : (∃ x y, σ q = .inl x ∧ e = .inl y) ∨ (∃ c x y, σ q = .inr (c, x) ∧ e = .inr (c, y))) : dq σ (dup1 σ q e) := by
  refine ⟨?_, fun p ci => ?_⟩
  · unfold dup1
    rw [if_neg (by omega)]
  · unfold disO dup1
    by_cases z : p = q
    · subst z
      rw [if_pos rfl]
      rcases h with ⟨x, y, e1, e2⟩ | ⟨c, x, y, e1, e2⟩
      · rw [e1, e2]
      · rw [e1, e2]
    · rw [if_neg z]
theorem dput_q {σ σ' : dS} {q ci k : Nat} {v : Value} (h : dput σ q ci k v = some σ') : dq σ σ' := by
  unfold dput at h
  by_cases hq : q < dN
  · rw [if_pos hq] at h
    cases e : σ q with
    | inl x => rw [e] at h; cases h
    | inr x =>
      obtain ⟨c, fs⟩ := x
      rw [e] at h
      dsimp only at h
      by_cases hc : c = ci ∧ k < fs.length
      · rw [if_pos hc] at h
        cases h
        exact dup1_qI hq (Or.inr ⟨c, fs, _, e, rfl⟩)
      · rw [if_neg hc] at h; cases h
  · rw [if_neg hq] at h; cases h
theorem dai_inl {σ : dS} {q t : Nat} {a : Nat × (Nat → Int32)} (h : dai σ q t = some a) : ∃ x, σ q = .inl x := by
  unfold dai at h
  cases e : σ q with
  | inl x => exact ⟨x, rfl⟩
  | inr x => rw [e] at h; cases h
theorem dal_inl {σ : dS} {q t : Nat} {a : Nat × (Nat → Int64)} (h : dal σ q t = some a) : ∃ x, σ q = .inl x := by
  unfold dal at h
  cases e : σ q with
  | inl x => exact ⟨x, rfl⟩
  | inr x => rw [e] at h; cases h
theorem dast_q {σ σ' : dS} {q t : Nat} {i x : Int32} (h : dast σ q t i x = some σ') : dq σ σ' := by
  unfold dast at h
  by_cases hq : q < dN
  · rw [if_pos hq] at h
    obtain ⟨a, h1, h2⟩ := Option.bind_eq_some_iff.mp h
    obtain ⟨j, h3, h4⟩ := Option.bind_eq_some_iff.mp h2
    cases h4
    obtain ⟨y, e⟩ := dai_inl h1
    exact dup1_qI hq (Or.inl ⟨y, _, e, rfl⟩)
  · rw [if_neg hq] at h; cases h
theorem dlst_q {σ σ' : dS} {q : Nat} {i : Int32} {x : Int64} (h : dlst σ q i x = some σ') : dq σ σ' := by
  unfold dlst at h
  by_cases hq : q < dN
  · rw [if_pos hq] at h
    obtain ⟨a, h1, h2⟩ := Option.bind_eq_some_iff.mp h
    obtain ⟨j, h3, h4⟩ := Option.bind_eq_some_iff.mp h2
    cases h4
    obtain ⟨y, e⟩ := dal_inl h1
    exact dup1_qI hq (Or.inl ⟨y, _, e, rfl⟩)
  · rw [if_neg hq] at h; cases h
theorem dbst_q {σ σ' : dS} {q : Nat} {i x : Int32} (h : dbst σ q i x = some σ') : dq σ σ' := by
  unfold dbst at h
  split at h
  · exact dast_q h
  · exact dast_q h
  · cases h
theorem dcopy_q {σ σ' : dS} {q0 q1 : Nat} {s d n : Int32} (h : dcopy σ q0 s q1 d n = some σ') : dq σ σ' := by
  unfold dcopy at h
  by_cases hq : q0 < dN ∧ q1 < dN
  · rw [if_pos hq] at h
    obtain ⟨a, h1, h2⟩ := Option.bind_eq_some_iff.mp h
    obtain ⟨b, h3, h4⟩ := Option.bind_eq_some_iff.mp h2
    split at h4
    · cases h4
    · cases h4
      obtain ⟨y, e⟩ := dai_inl h3
      exact dup1_qI hq.2 (Or.inl ⟨y, _, e, rfl⟩)
  · rw [if_neg hq] at h; cases h
def dQo (σ : dS) (o : Option dO) : Prop := ∀ pc' L' st' σ', o = some (.inl (pc', L', st', σ')) → dq σ σ'
theorem Q_none {σ : dS} : dQo σ none := fun _ _ _ _ h => by cases h
theorem Q_inr {σ : dS} {x : (Option Value) ⊕ (Nat × List Value × Nat × dL × List Value)} : dQo σ (some (.inr x)) := fun _ _ _ _ h => by cases h
theorem Q_nx {σ σ' : dS} {pc : Nat} {L : dL} {st : List Value} (h : dq σ σ') : dQo σ (dnx pc L st σ') := fun _ _ _ _ e => by
  unfold dnx at e
  cases e
  exact h
theorem Q_if {σ : dS} {p : Prop} [Decidable p] {a b : Option dO} (ha : dQo σ a) (hb : dQo σ b) : dQo σ (if p then a else b) := by
  by_cases h : p
  · rw [if_pos h]; exact ha
  · rw [if_neg h]; exact hb
theorem Q_bind {α : Type} {σ : dS} {x : Option α} {f : α → Option dO} (h : ∀ a, x = some a → dQo σ (f a)) : dQo σ (x.bind f) := by
  cases e : x with
  | none => exact Q_none
  | some a => exact h a e
theorem Q_jump {σ : dS} {pc : Nat} {off : Int} {L : dL} {st : List Value} : dQo σ (djump pc off L st σ) := by
  unfold djump
  exact Q_if (Q_nx (dq_refl σ)) Q_none
theorem Q_br {σ : dS} {b : Bool} {pc : Nat} {off : Int} {L : dL} {st : List Value} : dQo σ (dbr b pc off L st σ) := by
  unfold dbr
  exact Q_if (Q_nx (dq_refl σ)) Q_none
theorem Q_cl {σ : dS} {M pc M' : Nat} {L : dL} {st : List Value} : dQo σ (dcl M pc M' L st) := by
  unfold dcl
  exact Q_if Q_inr Q_none
theorem Q_ret {σ : dS} {M : Nat} {v : Value} : dQo σ (dretv M v) := by
  unfold dretv
  split
  · exact Q_inr
  · exact Q_if Q_inr Q_none
  · exact Q_inr
  · exact Q_inr
  · exact Q_none
theorem dexec_Q (M pc : Nat) (i : Instr) (L : dL) (st : List Value) (σ : dS) : dQo σ (dexec M pc i L st σ) := by
  unfold dexec
  split
  all_goals (repeat' (first | exact Q_none | exact Q_inr | exact Q_nx (dq_refl σ) | exact Q_jump | exact Q_br | exact Q_cl | exact Q_ret | exact Q_nx (dput_q (by assumption)) | exact Q_nx (dast_q (by assumption)) | exact Q_nx (dbst_q (by assumption)) | exact Q_nx (dlst_q (by assumption)) | exact Q_nx (dcopy_q (by assumption)) | apply Q_if | (apply Q_bind; intro _ _) | split))
theorem drun_q : ∀ (n M pc : Nat) (L : dL) (st : List Value) (σ : dS) (r : Option Value) (σ' : dS), drun n M pc L st σ = some (r, σ') → dq σ σ' := by
  intro n
  induction n with
  | zero => intro M pc L st σ r σ' h; rw [drun] at h; cases h
  | succ n ih =>
    intro M pc L st σ r σ' h
    rw [drun] at h
    have hs : dQo σ (dstep M pc L st σ) := by
      unfold dstep
      split
      · exact Q_if (dexec_Q M pc _ L st σ) Q_none
      · exact Q_none
    cases e : dstep M pc L st σ with
    | none => rw [e] at h; cases h
    | some o =>
      rw [e] at h
      rcases o with ⟨pc', L', st', σ1⟩ | r1 | ⟨M', as, pc', L', st'⟩
      · exact (hs _ _ _ _ e).tr (ih _ _ _ _ _ _ _ h)
      · cases h; exact dq_refl σ
      · dsimp only at h
        by_cases hm : M' < 2
        · rw [if_pos hm] at h
          cases ep : dprm M' as with
          | none => rw [ep] at h; cases h
          | some v => rw [ep] at h; exact ih _ _ _ _ _ _ _ h
        · rw [if_neg hm] at h
          cases ep : drun n M' 0 (dent M' as) [] σ with
          | none => rw [ep] at h; cases h
          | some v =>
            obtain ⟨r2, σ2⟩ := v
            rw [ep] at h
            exact (ih _ _ _ _ _ _ _ ep).tr (ih _ _ _ _ _ _ _ h)
theorem dcall_q {M : Nat} {as : List Value} {σ σ' : dS} {r : Option Value} (h : dcall M as σ = some (r, σ')) : dq σ σ' := by
  unfold dcall at h
  by_cases hm : M < 2
  · rw [if_pos hm] at h
    cases ep : dprm M as with
    | none => rw [ep] at h; cases h
    | some v => rw [ep] at h; cases h; exact dq_refl σ
  · rw [if_neg hm] at h
    obtain ⟨n, hn⟩ := den_iff.mp h
    exact drun_q _ _ _ _ _ _ _ _ hn

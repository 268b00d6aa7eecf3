/-! some instructions go, the others keep their order -/
def sd (kp : Nat → Bool) : Nat → Nat → Nat := fun i _ => if kp i = true then 5 else 0
def sN (kp : Nat → Bool) (n : Nat) : Nat := nif (sd kp) n
def sC (kp : Nat → Bool) (c : Nat → Nat → Nat) (n : Nat) : Nat → Nat → Nat := fun t => c (ipl (sd kp) n t)
theorem sd5 (kp : Nat → Bool) (i : Nat) : sd kp i 0 = 5 ↔ kp i = true := by
  unfold sd
  by_cases h : kp i = true
  · rw [if_pos h]; exact ⟨fun _ => h, fun _ => rfl⟩
  · rw [if_neg h]; exact ⟨fun z => absurd z (by decide), fun z => absurd z h⟩
theorem sN_0 (kp : Nat → Bool) : sN kp 0 = 0 := rfl
theorem sN_t {kp : Nat → Bool} {i : Nat} (h : kp i = true) : sN kp (i + 1) = sN kp i + 1 := by
  unfold sN
  rw [nif, if_pos ((sd5 kp i).mpr h)]
theorem sN_f {kp : Nat → Bool} {i : Nat} (h : ¬ kp i = true) : sN kp (i + 1) = sN kp i := by
  unfold sN
  rw [nif, if_neg (fun z => h ((sd5 kp i).mp z))]
  rfl
theorem sN_le (kp : Nat → Bool) (n : Nat) : sN kp n ≤ n := nif_le _ n
theorem sN_mono {kp : Nat → Bool} {a b : Nat} (h : a ≤ b) : sN kp a ≤ sN kp b := nif_mono h
theorem sC_at {kp : Nat → Bool} {c : Nat → Nat → Nat} {i n : Nat} (h : i < n) (hk : kp i = true) : sC kp c n (sN kp i) = c i := by
  unfold sC sN
  rw [ipl_at h ((sd5 kp i).mpr hk)]
theorem s_nif {kp : Nat → Bool} {c : Nat → Nat → Nat} {n : Nat} (hk : ∀ i, i < n → c i 0 = 5 → kp i = true) : ∀ i, i ≤ n → nif (sC kp c n) (sN kp i) = nif c i := by
  intro i
  induction i with
  | zero => intro _; rfl
  | succ i ih =>
    intro hi
    by_cases h : kp i = true
    · rw [sN_t h, nif, nif, ih (by omega), sC_at (by omega) h]
    · rw [sN_f h, ih (by omega), nif, if_neg (fun z => h (hk i (by omega) z)), Nat.add_zero]
theorem s_pl {kp : Nat → Bool} {n t : Nat} (h : t < sN kp n) : ∃ i, i < n ∧ kp i = true ∧ sN kp i = t := by
  obtain ⟨h1, h2, h3⟩ := ipl_spec h
  exact ⟨_, h1, (sd5 kp _).mp h2, h3⟩
theorem s_PV {kp : Nat → Bool} {n ou : Nat} {c : Nat → Nat → Nat} {ws : Nat → Nat} (hv : PV n c ws ou) (hk : ∀ i, i < n → c i 0 = 5 → kp i = true) : PV (sN kp n) (sC kp c n) ws ou ∧ nif (sC kp c n) (sN kp n) = nif c n := by
  have e := s_nif hk n (Nat.le_refl n)
  obtain ⟨h1, h2, h3, h4, h5⟩ := hv
  have := sN_le kp n
  refine ⟨⟨by omega, by omega, h3, fun t ht => ?_, fun j hj => h5 j (by omega)⟩, e⟩
  obtain ⟨i, hi, hki, rfl⟩ := s_pl ht
  rw [sC_at hi hki, s_nif hk i (by omega)]
  obtain ⟨g1, g2, g3, g4, g5, g6⟩ := h4 i hi
  refine ⟨g1, g2, g3, g4, g5, fun o k hk2 => ?_⟩
  obtain ⟨i', hi', hk', rfl⟩ := s_pl (Nat.lt_of_lt_of_le hk2 (sN_mono (Nat.le_of_lt hi)))
  rw [sC_at hi hki] at o ⊢
  rw [sC_at hi' hk']
  refine g6 o i' ?_
  rcases Nat.lt_or_ge i' i with z | z
  · exact z
  · have := sN_mono (kp := kp) z
    omega
section FINDIFS
variable {Lx : Nat} {F A : Nat → Nat → Int32} {J : Nat → Nat → Int64} {P n : Nat} {c : Nat → Nat → Nat}
theorem l_findIfs (hP : isP P) (hn : n ≤ 24) (h6 : nif c n ≤ 6) (h7 : F P 7 = nI n) (h8 : F P 8 = nI (nif c n)) (hb5 : ∀ i, i < n → c i 0 ≤ 5) : ∀ k i (A : Nat → Nat → Int32), i + k = n → (∀ i, i < n → A (P + 1) i = nI (c i 0)) → (∀ q, q < i → c q 0 = 5 → A (P + 6) (nif c q) = nI q) → ∃ f, den mX3_findIfs 4 [some (.ref P), some (.int (nI (nif c i))), some (.int (nI i))] [] (mk Lx F A J) = some (none, mk Lx F (up A (P + 6) f) J) ∧ ∀ q, q < n → c q 0 = 5 → f (nif c q) = nI q := by
  intro k
  induction k with
  | zero =>
    intro i A hi h1 h2
    have hlt : ¬ i < n := by omega
    have : i = n := by omega
    refine ⟨A (P + 6), ?_, fun q hq h5 => h2 q (by omega) h5⟩
    rw [hX3_findIfs_4]
    simp (disch := omega) only [SX3_findIfs, Gp hP, h7, nI_ltI, hlt, up_id, Option.bind_some, Option.bind_none, if_true, if_false, zr0, zr1, one11, one01, one0, one1, Option.toList_some, Option.toList_none, List.cons_append, List.nil_append, Nat.reduceEqDiff, Nat.reduceAdd, not_false_eq_true, not_true_eq_false, and_true, true_and, and_false, false_and, or_true, true_or, or_false, false_or, and_self, or_self, Bool.false_eq_true]
  | succ k ih =>
    intro i A hi h1 h2
    have hlt : i < n := by omega
    have hnn := nif_le c n
    have hmn : nif c i ≤ nif c n := nif_mono (by omega)
    have eN : nif c (i + 1) = nif c i + if c i 0 = 5 then 1 else 0 := rfl
    by_cases hj : nif c i < nif c n
    · by_cases e5 : c i 0 = 5
      · rw [if_pos e5] at eN
        obtain ⟨f, g1, g2⟩ := ih (i + 1) (up A (P + 6) (up (A (P + 6)) (nif c i) (nI i))) (by omega) (fun q hq => by rw [up_ne _ _ (by omega)]; exact h1 q hq) (fun q hq h5 => by
          rw [up_eq]
          by_cases z : q = i
          · rw [z, up_eq]
          · have : nif c q < nif c i := nif_lt (by omega) h5
            rw [up_ne _ _ (by omega)]
            exact h2 q (by omega) h5)
        rw [up_up, eN] at g1
        refine ⟨f, ?_, g2⟩
        have hk := h1 i hlt
        rw [e5] at hk
        rw [hX3_findIfs_4]
        simp (disch := omega) only [SX3_findIfs, Gp hP, h7, h8, lep hP, ap1 hP, wp6 hP, nI_ltI, hlt, hj, hk, nI_add, g1, eq_self_iff_true, Option.bind_some, Option.bind_none, if_true, if_false, zr0, zr1, one11, one01, one0, one1, Option.toList_some, Option.toList_none, List.cons_append, List.nil_append, Nat.reduceEqDiff, Nat.reduceAdd, not_false_eq_true, not_true_eq_false, and_true, true_and, and_false, false_and, or_true, true_or, or_false, false_or, and_self, or_self, Bool.false_eq_true]
      · have eN : nif c (i + 1) = nif c i := by rw [nif, if_neg e5]; rfl
        obtain ⟨f, g1, g2⟩ := ih (i + 1) A (by omega) h1 (fun q hq h5 => by
          by_cases z : q = i
          · exact absurd (z ▸ h5) e5
          · exact h2 q (by omega) h5)
        rw [eN] at g1
        refine ⟨f, ?_, g2⟩
        have hk := h1 i hlt
        have hb := hb5 i hlt
        rw [hX3_findIfs_4]
        simp (disch := omega) only [SX3_findIfs, Gp hP, h7, h8, lep hP, ap1 hP, nI_ltI, hlt, hj, hk, nI_eq, e5, nI_add, g1, Option.bind_some, Option.bind_none, if_true, if_false, zr0, zr1, one11, one01, one0, one1, Option.toList_some, Option.toList_none, List.cons_append, List.nil_append, Nat.reduceEqDiff, Nat.reduceAdd, not_false_eq_true, not_true_eq_false, and_true, true_and, and_false, false_and, or_true, true_or, or_false, false_or, and_self, or_self, Bool.false_eq_true]
    · refine ⟨A (P + 6), ?_, fun q hq h5 => ?_⟩
      · rw [hX3_findIfs_4]
        simp (disch := omega) only [SX3_findIfs, Gp hP, h7, h8, nI_ltI, hlt, hj, up_id, Option.bind_some, Option.bind_none, if_true, if_false, zr0, zr1, one11, one01, one0, one1, Option.toList_some, Option.toList_none, List.cons_append, List.nil_append, Nat.reduceEqDiff, Nat.reduceAdd, not_false_eq_true, not_true_eq_false, and_true, true_and, and_false, false_and, or_true, true_or, or_false, false_or, and_self, or_self, Bool.false_eq_true]
      · by_cases z : q < i
        · exact h2 q z h5
        · have a1 : nif c i ≤ nif c q := nif_mono (by omega)
          have a2 := nif_lt hq h5
          omega
theorem c_findIfs (hP : isP P) (hn : n ≤ 24) (h6 : nif c n ≤ 6) (h7 : F P 7 = nI n) (h8 : F P 8 = nI (nif c n)) (hb5 : ∀ i, i < n → c i 0 ≤ 5) (h1 : ∀ i, i < n → A (P + 1) i = nI (c i 0)) : ∃ f, dcall mX3_findIfs [.ref P] (mk Lx F A J) = some (none, mk Lx F (up A (P + 6) f) J) ∧ ∀ j, j < nif c n → f j = nI (ipl c n j) := by
  obtain ⟨f, g1, g2⟩ := l_findIfs (Lx := Lx) (J := J) hP hn h6 h7 h8 hb5 n 0 A (by omega) h1 (fun q hq => absurd hq (Nat.not_lt_zero q))
  refine ⟨f, ?_, fun j hj => ?_⟩
  · simp only [nif] at g1
    simp (disch := omega) only [CX3_findIfs, SX3_findIfs, g1, Option.bind_some, Option.bind_none, if_true, if_false, zr0, zr1, one11, one01, one0, one1, Option.toList_some, Option.toList_none, List.cons_append, List.nil_append, Nat.reduceEqDiff, Nat.reduceAdd, not_false_eq_true, not_true_eq_false, and_true, true_and, and_false, false_and, or_true, true_or, or_false, false_or, and_self, or_self, Bool.false_eq_true]
  · obtain ⟨a1, a2, a3⟩ := ipl_spec hj
    have := g2 _ a1 a2
    rw [a3] at this
    exact this
end FINDIFS

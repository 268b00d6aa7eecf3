section PG2
variable {Lx : Nat} {F A : Nat → Nat → Int32} {J : Nat → Nat → Int64} {P n ou : Nat} {c : Nat → Nat → Nat} {ws : Nat → Nat}
theorem c_oneIf (b : Int32) (σ : dS) : dcall mX6_oneIf [.int b] σ = some (some (.int (if b = 0 then nI 0 else nI 1)), σ) := by
  simp only [CX6_oneIf, SX6_oneIf]
  split <;> rfl
theorem l_howManyUnder (hP : isP P) (h : XP F A P n c ws ou) (hv : PV n c ws ou) {g : Nat} (hg : g ≤ 12) : ∀ k i u, i + k = n → den mX3_howManyUnder 4 [some (.ref P), some (.int (nI g)), some (.int (nI u)), some (.int (nI i))] [] (mk Lx F A J) = some (some (.int (nI (u + sumF (fun i => if c i 4 = g then 1 else 0) i k))), mk Lx F A J) := by
  have hn := hv.1
  intro k
  induction k with
  | zero =>
    intro i u hi
    have : ¬ i < n := by omega
    rw [hX3_howManyUnder_4]
    simp (disch := omega) only [SX3_howManyUnder, Gp hP, h.1, nI_ltI, this, Option.bind_some, Option.bind_none, if_true, if_false, zr0, zr1, one11, one01, one0, one1, Option.toList_some, Option.toList_none, List.cons_append, List.nil_append, Nat.reduceEqDiff, Nat.reduceAdd, not_false_eq_true, not_true_eq_false, and_true, true_and, and_false, false_and, or_true, true_or, or_false, false_or, and_self, or_self, Bool.false_eq_true, sumF, Nat.add_zero]
  | succ k ih =>
    intro i u hi
    have hlt : i < n := by omega
    have hb := hv.b hlt
    rw [hX3_howManyUnder_4]
    by_cases hc : c i 4 = g
    · simp (disch := omega) only [SX3_howManyUnder, Gp hP, lep hP, ap5 hP, h.1, nI_ltI, hlt, (h.2.2.2.1 i hlt).2.2.2.2, nI_eq, hc, c_oneIf, one1, Option.bind_some, Option.bind_none, if_true, if_false, zr0, zr1, one11, one01, one0, one1, Option.toList_some, Option.toList_none, List.cons_append, List.nil_append, Nat.reduceEqDiff, Nat.reduceAdd, not_false_eq_true, not_true_eq_false, and_true, true_and, and_false, false_and, or_true, true_or, or_false, false_or, and_self, or_self, Bool.false_eq_true, nI_add, sumF]
      rw [ih (i + 1) (u + 1) (by omega), Nat.add_assoc]
    · simp (disch := omega) only [SX3_howManyUnder, Gp hP, lep hP, ap5 hP, h.1, nI_ltI, hlt, (h.2.2.2.1 i hlt).2.2.2.2, nI_eq, hc, c_oneIf, one0, Option.bind_some, Option.bind_none, if_true, if_false, zr0, zr1, one11, one01, one0, one1, Option.toList_some, Option.toList_none, List.cons_append, List.nil_append, Nat.reduceEqDiff, Nat.reduceAdd, not_false_eq_true, not_true_eq_false, and_true, true_and, and_false, false_and, or_true, true_or, or_false, false_or, and_self, or_self, Bool.false_eq_true, nI_add, sumF]
      rw [ih (i + 1) (u + 0) (by omega)]
      simp
theorem c_howManyUnder (hP : isP P) (h : XP F A P n c ws ou) (hv : PV n c ws ou) {g : Nat} (hg : g ≤ 12) : dcall mX3_howManyUnder [.ref P, .int (nI g)] (mk Lx F A J) = some (some (.int (nI (sumF (fun i => if c i 4 = g then 1 else 0) 0 n))), mk Lx F A J) := by
  simp only [CX3_howManyUnder, SX3_howManyUnder]
  rw [l_howManyUnder hP h hv hg n 0 0 (by omega), Nat.zero_add]
theorem l_howManyOf (hP : isP P) (h : XP F A P n c ws ou) (hv : PV n c ws ou) {g : Nat} (hg : g ≤ 12) : ∀ k i u, i + k = n → den mX3_howManyOf 4 [some (.ref P), some (.int (nI g)), some (.int (nI u)), some (.int (nI i))] [] (mk Lx F A J) = some (some (.int (nI (u + sumF (fun i => if c i 0 = g then 1 else 0) i k))), mk Lx F A J) := by
  have hn := hv.1
  intro k
  induction k with
  | zero =>
    intro i u hi
    have : ¬ i < n := by omega
    rw [hX3_howManyOf_4]
    simp (disch := omega) only [SX3_howManyOf, Gp hP, h.1, nI_ltI, this, Option.bind_some, Option.bind_none, if_true, if_false, zr0, zr1, one11, one01, one0, one1, Option.toList_some, Option.toList_none, List.cons_append, List.nil_append, Nat.reduceEqDiff, Nat.reduceAdd, not_false_eq_true, not_true_eq_false, and_true, true_and, and_false, false_and, or_true, true_or, or_false, false_or, and_self, or_self, Bool.false_eq_true, sumF, Nat.add_zero]
  | succ k ih =>
    intro i u hi
    have hlt : i < n := by omega
    have hb := hv.b hlt
    rw [hX3_howManyOf_4]
    by_cases hc : c i 0 = g
    · simp (disch := omega) only [SX3_howManyOf, Gp hP, lep hP, ap1 hP, h.1, nI_ltI, hlt, (h.2.2.2.1 i hlt).1, nI_eq, hc, c_oneIf, one1, Option.bind_some, Option.bind_none, if_true, if_false, zr0, zr1, one11, one01, one0, one1, Option.toList_some, Option.toList_none, List.cons_append, List.nil_append, Nat.reduceEqDiff, Nat.reduceAdd, not_false_eq_true, not_true_eq_false, and_true, true_and, and_false, false_and, or_true, true_or, or_false, false_or, and_self, or_self, Bool.false_eq_true, nI_add, sumF]
      rw [ih (i + 1) (u + 1) (by omega), Nat.add_assoc]
    · simp (disch := omega) only [SX3_howManyOf, Gp hP, lep hP, ap1 hP, h.1, nI_ltI, hlt, (h.2.2.2.1 i hlt).1, nI_eq, hc, c_oneIf, one0, Option.bind_some, Option.bind_none, if_true, if_false, zr0, zr1, one11, one01, one0, one1, Option.toList_some, Option.toList_none, List.cons_append, List.nil_append, Nat.reduceEqDiff, Nat.reduceAdd, not_false_eq_true, not_true_eq_false, and_true, true_and, and_false, false_and, or_true, true_or, or_false, false_or, and_self, or_self, Bool.false_eq_true, nI_add, sumF]
      rw [ih (i + 1) (u + 0) (by omega)]
      simp
theorem c_howManyOf (hP : isP P) (h : XP F A P n c ws ou) (hv : PV n c ws ou) {g : Nat} (hg : g ≤ 12) : dcall mX3_howManyOf [.ref P, .int (nI g)] (mk Lx F A J) = some (some (.int (nI (sumF (fun i => if c i 0 = g then 1 else 0) 0 n))), mk Lx F A J) := by
  simp only [CX3_howManyOf, SX3_howManyOf]
  rw [l_howManyOf hP h hv hg n 0 0 (by omega), Nat.zero_add]
theorem l_secondsOf (hP : isP P) (h : XP F A P n c ws ou) (hv : PV n c ws ou) {g : Nat} (hg : g ≤ 12) : ∀ k i u, i + k = n → den mX3_secondsOf 4 [some (.ref P), some (.int (nI g)), some (.int (nI u)), some (.int (nI i))] [] (mk Lx F A J) = some (some (.int (nI (u + sumF (fun i => if c i 0 = g then c i 2 else 0) i k))), mk Lx F A J) := by
  have hn := hv.1
  intro k
  induction k with
  | zero =>
    intro i u hi
    have : ¬ i < n := by omega
    rw [hX3_secondsOf_4]
    simp (disch := omega) only [SX3_secondsOf, Gp hP, h.1, nI_ltI, this, Option.bind_some, Option.bind_none, if_true, if_false, zr0, zr1, one11, one01, one0, one1, Option.toList_some, Option.toList_none, List.cons_append, List.nil_append, Nat.reduceEqDiff, Nat.reduceAdd, not_false_eq_true, not_true_eq_false, and_true, true_and, and_false, false_and, or_true, true_or, or_false, false_or, and_self, or_self, Bool.false_eq_true, sumF, Nat.add_zero]
  | succ k ih =>
    intro i u hi
    have hlt : i < n := by omega
    have hb := hv.b hlt
    rw [hX3_secondsOf_4]
    by_cases hc : c i 0 = g
    · simp (disch := omega) only [SX3_secondsOf, Gp hP, lep hP, ap1 hP, ap3 hP, h.1, nI_ltI, hlt, (h.2.2.2.1 i hlt).1, (h.2.2.2.1 i hlt).2.2.1, nI_eq, hc, Option.bind_some, Option.bind_none, if_true, if_false, zr0, zr1, one11, one01, one0, one1, Option.toList_some, Option.toList_none, List.cons_append, List.nil_append, Nat.reduceEqDiff, Nat.reduceAdd, not_false_eq_true, not_true_eq_false, and_true, true_and, and_false, false_and, or_true, true_or, or_false, false_or, and_self, or_self, Bool.false_eq_true, nI_add, sumF]
      rw [ih (i + 1) (u + c i 2) (by omega), Nat.add_assoc]
    · simp (disch := omega) only [SX3_secondsOf, Gp hP, lep hP, ap1 hP, h.1, nI_ltI, hlt, (h.2.2.2.1 i hlt).1, nI_eq, hc, Option.bind_some, Option.bind_none, if_true, if_false, zr0, zr1, one11, one01, one0, one1, Option.toList_some, Option.toList_none, List.cons_append, List.nil_append, Nat.reduceEqDiff, Nat.reduceAdd, not_false_eq_true, not_true_eq_false, and_true, true_and, and_false, false_and, or_true, true_or, or_false, false_or, and_self, or_self, Bool.false_eq_true, nI_add, sumF]
      rw [ih (i + 1) (u + 0) (by omega)]
      simp
theorem c_secondsOf (hP : isP P) (h : XP F A P n c ws ou) (hv : PV n c ws ou) {g : Nat} (hg : g ≤ 12) : dcall mX3_secondsOf [.ref P, .int (nI g)] (mk Lx F A J) = some (some (.int (nI (sumF (fun i => if c i 0 = g then c i 2 else 0) 0 n))), mk Lx F A J) := by
  simp only [CX3_secondsOf, SX3_secondsOf]
  rw [l_secondsOf hP h hv hg n 0 0 (by omega), Nat.zero_add]
theorem l_ifOf (hP : isP P) (h : XP F A P n c ws ou) (hv : PV n c ws ou) {i : Nat} (hi : i < n) : ∀ k j, j + k = nif c n → (∀ j', j' < j → ipl c n j' ≠ i) → den mX3_ifOf 2 [some (.ref P), some (.int (nI i)), some (.int (nI j))] [] (mk Lx F A J) = some (some (.int (if c i 0 = 5 then nI (nif c i) else (-4))), mk Lx F A J) := by
  have hn := hv.1
  have hn6 := hv.2.1
  intro k
  induction k with
  | zero =>
    intro j hj hno
    have : ¬ j < nif c n := by omega
    rw [hX3_ifOf_2]
    have hk : ¬ c i 0 = 5 := fun z => hno (nif c i) (by have := nif_lt hi z; omega) (ipl_at hi z)
    simp (disch := omega) only [SX3_ifOf, Gp hP, h.2.1, nI_ltI, this, hk, Option.bind_some, Option.bind_none, if_true, if_false, zr0, zr1, one11, one01, one0, one1, Option.toList_some, Option.toList_none, List.cons_append, List.nil_append, Nat.reduceEqDiff, Nat.reduceAdd, not_false_eq_true, not_true_eq_false, and_true, true_and, and_false, false_and, or_true, true_or, or_false, false_or, and_self, or_self, Bool.false_eq_true]
  | succ k ih =>
    intro j hj hno
    have hlt : j < nif c n := by omega
    have hs := ipl_spec hlt
    rw [hX3_ifOf_2]
    by_cases hc : ipl c n j = i
    · have hk : c i 0 = 5 := hc ▸ hs.2.1
      have hj2 : nif c i = j := hc ▸ hs.2.2
      simp (disch := omega) only [SX3_ifOf, Gp hP, lep hP, ap6 hP, h.2.1, nI_ltI, hlt, h.2.2.2.2.1 j hlt, nI_eq, hc, hk, hj2, Option.bind_some, Option.bind_none, if_true, if_false, zr0, zr1, one11, one01, one0, one1, Option.toList_some, Option.toList_none, List.cons_append, List.nil_append, Nat.reduceEqDiff, Nat.reduceAdd, not_false_eq_true, not_true_eq_false, and_true, true_and, and_false, false_and, or_true, true_or, or_false, false_or, and_self, or_self, Bool.false_eq_true]
    · simp (disch := omega) only [SX3_ifOf, Gp hP, lep hP, ap6 hP, h.2.1, nI_ltI, hlt, h.2.2.2.2.1 j hlt, nI_eq, hc, Option.bind_some, Option.bind_none, if_true, if_false, zr0, zr1, one11, one01, one0, one1, Option.toList_some, Option.toList_none, List.cons_append, List.nil_append, Nat.reduceEqDiff, Nat.reduceAdd, not_false_eq_true, not_true_eq_false, and_true, true_and, and_false, false_and, or_true, true_or, or_false, false_or, and_self, or_self, Bool.false_eq_true, nI_add]
      exact ih (j + 1) (by omega) (fun j' h' => by
        by_cases e : j' = j
        · rw [e]; exact hc
        · exact hno j' (by omega))
theorem c_ifOf (hP : isP P) (h : XP F A P n c ws ou) (hv : PV n c ws ou) {i : Nat} (hi : i < n) : dcall mX3_ifOf [.ref P, .int (nI i)] (mk Lx F A J) = some (some (.int (if c i 0 = 5 then nI (nif c i) else (-4))), mk Lx F A J) := by
  simp only [CX3_ifOf, SX3_ifOf]
  exact l_ifOf hP h hv hi (nif c n) 0 (by omega) (fun j' h' => absurd h' (by omega))
theorem l_firstUnder (hP : isP P) (h : XP F A P n c ws ou) (hv : PV n c ws ou) {g : Nat} (hg : g ≤ 12) : ∀ k i, i + k = n → den mX3_firstUnder 2 [some (.ref P), some (.int (nI g)), some (.int (nI i))] [] (mk Lx F A J) = some (some (.int (oI (fstF (fun i => c i 4 == g) i k))), mk Lx F A J) := by
  have hn := hv.1
  intro k
  induction k with
  | zero =>
    intro i hi
    have : ¬ i < n := by omega
    rw [hX3_firstUnder_2]
    simp (disch := omega) only [SX3_firstUnder, Gp hP, h.1, nI_ltI, this, Option.bind_some, Option.bind_none, if_true, if_false, zr0, zr1, one11, one01, one0, one1, Option.toList_some, Option.toList_none, List.cons_append, List.nil_append, Nat.reduceEqDiff, Nat.reduceAdd, not_false_eq_true, not_true_eq_false, and_true, true_and, and_false, false_and, or_true, true_or, or_false, false_or, and_self, or_self, Bool.false_eq_true, fstF, oI]
  | succ k ih =>
    intro i hi
    have hlt : i < n := by omega
    have hb := hv.b hlt
    rw [hX3_firstUnder_2]
    by_cases hc : c i 4 = g
    · simp (disch := omega) only [SX3_firstUnder, Gp hP, lep hP, ap5 hP, h.1, nI_ltI, hlt, (h.2.2.2.1 i hlt).2.2.2.2, nI_eq, hc, Option.bind_some, Option.bind_none, if_true, if_false, zr0, zr1, one11, one01, one0, one1, Option.toList_some, Option.toList_none, List.cons_append, List.nil_append, Nat.reduceEqDiff, Nat.reduceAdd, not_false_eq_true, not_true_eq_false, and_true, true_and, and_false, false_and, or_true, true_or, or_false, false_or, and_self, or_self, Bool.false_eq_true, nI_add, fstF, beq_self_eq_true, oI]
    · have hc2 : (c i 4 == g) = false := by simp [hc]
      simp (disch := omega) only [SX3_firstUnder, Gp hP, lep hP, ap5 hP, h.1, nI_ltI, hlt, (h.2.2.2.1 i hlt).2.2.2.2, nI_eq, hc, Option.bind_some, Option.bind_none, if_true, if_false, zr0, zr1, one11, one01, one0, one1, Option.toList_some, Option.toList_none, List.cons_append, List.nil_append, Nat.reduceEqDiff, Nat.reduceAdd, not_false_eq_true, not_true_eq_false, and_true, true_and, and_false, false_and, or_true, true_or, or_false, false_or, and_self, or_self, Bool.false_eq_true, nI_add, fstF, hc2, Bool.false_eq_true]
      exact ih (i + 1) (by omega)
theorem c_firstUnder (hP : isP P) (h : XP F A P n c ws ou) (hv : PV n c ws ou) {g : Nat} (hg : g ≤ 12) : dcall mX3_firstUnder [.ref P, .int (nI g)] (mk Lx F A J) = some (some (.int (oI (fstF (fun i => c i 4 == g) 0 n))), mk Lx F A J) := by
  simp only [CX3_firstUnder, SX3_firstUnder]
  exact l_firstUnder hP h hv hg n 0 (by omega)
theorem l_depthOf (hP : isP P) (h : XP F A P n c ws ou) (hv : PV n c ws ou) (g0 : Nat) : ∀ k d g, g ≤ 2 * nif c n → d + k = 6 → (g + 1) / 2 ≤ k → den mX3_depthOf 4 [some (.ref P), some (.int (nI g0)), some (.int (nI d)), some (.int (nI g))] [] (mk Lx F A J) = some (some (.int (nI (d + dep c n k g))), mk Lx F A J) := by
  have hn6 := hv.2.1
  intro k
  induction k with
  | zero =>
    intro d g hg hd hk
    have hg0 : g = 0 := by omega
    subst hg0
    have : ¬ d < 6 := by omega
    rw [hX3_depthOf_4]
    simp (disch := omega) only [SX3_depthOf, nI_ltI, this, Option.bind_some, Option.bind_none, if_true, if_false, zr0, zr1, one11, one01, one0, one1, Option.toList_some, Option.toList_none, List.cons_append, List.nil_append, Nat.reduceEqDiff, Nat.reduceAdd, not_false_eq_true, not_true_eq_false, and_true, true_and, and_false, false_and, or_true, true_or, or_false, false_or, and_self, or_self, Bool.false_eq_true, dep, Nat.add_zero]
  | succ k ih =>
    intro d g hg hd hk
    have hlt : d < 6 := by omega
    rw [hX3_depthOf_4]
    by_cases hc : g = 0
    · subst hc
      simp (disch := omega) only [SX3_depthOf, nI_ltI, nI_g0, hlt, Nat.lt_irrefl, Option.bind_some, Option.bind_none, if_true, if_false, zr0, zr1, one11, one01, one0, one1, Option.toList_some, Option.toList_none, List.cons_append, List.nil_append, Nat.reduceEqDiff, Nat.reduceAdd, not_false_eq_true, not_true_eq_false, and_true, true_and, and_false, false_and, or_true, true_or, or_false, false_or, and_self, or_self, Bool.false_eq_true, dep, Nat.add_zero]
    · have hp := par_lt hv (by omega) hg
      have hpos : 0 < g := by omega
      simp (disch := omega) only [SX3_depthOf, Op hP, nI_ltI, nI_g0, hlt, hpos, hc, c_parentOf hP h hv hg, Option.bind_some, Option.bind_none, if_true, if_false, zr0, zr1, one11, one01, one0, one1, Option.toList_some, Option.toList_none, List.cons_append, List.nil_append, Nat.reduceEqDiff, Nat.reduceAdd, not_false_eq_true, not_true_eq_false, and_true, true_and, and_false, false_and, or_true, true_or, or_false, false_or, and_self, or_self, Bool.false_eq_true, nI_add]
      rw [ih (d + 1) (par c n g) hp.2.2.1 (by omega) (by omega), dep, if_neg hc, show d + 1 + dep c n k (par c n g) = d + (dep c n k (par c n g) + 1) by omega]
theorem c_depthOf (hP : isP P) (h : XP F A P n c ws ou) (hv : PV n c ws ou) {g : Nat} (hg : g ≤ 2 * nif c n) : dcall mX3_depthOf [.ref P, .int (nI g)] (mk Lx F A J) = some (some (.int (nI (dep c n 6 g))), mk Lx F A J) := by
  have hn6 := hv.2.1
  simp only [CX3_depthOf, SX3_depthOf]
  rw [l_depthOf hP h hv g 6 0 g hg (by omega) (by omega), Nat.zero_add]
end PG2

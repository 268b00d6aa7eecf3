theorem mo_w {i a b k : Nat} (h1 : i < a) (h2 : a < b) : (if i < k ∧ k ≤ a then k - 1 else if k < b then k else k + 1) = mo i a b k := by
  unfold mo
  by_cases z : i < k ∧ k ≤ a
  · rw [if_pos z, if_neg (by omega), if_pos z.2]
  · rw [if_neg z]
    by_cases y : k ≤ i
    · rw [if_pos y, if_pos (by omega)]
    · rw [if_neg y, if_neg (c := k ≤ a) (by omega)]
section MERGE6B
variable {Lx : Nat} {J : Nat → Nat → Int64} {P n ou : Nat} {c : Nat → Nat → Nat} {ws : Nat → Nat}
theorem l_mg2 (hP : isP P) (hv : PV n c ws ou) {p a b : Nat} (h1 : p < a) (h2 : a < b) (h3 : b < n) (ha : c a 0 ≠ 5) (hb5 : c b 0 ≠ 5) {F : Nat → Nat → Int32} (h7 : F P 7 = nI (n - 1)) (h8 : F P 8 = nI (nif c n)) (h9 : F P 9 = nI ou) (l1 l4 : Option Value) : ∀ K i (A : Nat → Nat → Int32), p + K = i → i ≤ a → (∀ d, 1 ≤ d → d ≤ 5 → ∀ k, k < n - 1 → A (P + d) k = nI (c (if i < k ∧ k ≤ a then k - 1 else if k < b then k else k + 1) (d - 1))) → (∀ j, j < nif c n → A (P + 7) j = nI (ws j)) → ∃ A', den mX3_mergeAhead 104 [some (.ref P), l1, some (.int (nI p)), some (.int (nI a)), l4, some (.int (nI (c a 0))), some (.int (nI (c a 1))), some (.int (nI (c a 2))), some (.int (nI (c a 3))), some (.int (nI i))] [] (mk Lx F A J) = some (none, mk Lx F A' J) ∧ XP F A' P (n - 1) (mC c p a b) ws ou ∧ ∀ q, (∀ d, 1 ≤ d → d ≤ 6 → q ≠ P + d) → A' q = A q := by
  have hn := hv.1
  obtain ⟨pv, en⟩ := m_PV hv h1 h2 h3 ha hb5
  intro K
  induction K with
  | zero =>
    intro i A hi hia hA hw
    have e : i = p := by omega
    subst e
    have hlt : ¬ i < i := by omega
    have e4 : ∀ d, 1 ≤ d → d ≤ 4 → ∀ k, k < n - 1 → up (A (P + d)) i (nI (c a (d - 1))) k = nI (mC c i a b k (d - 1)) := fun d d1 d2 k hk => by
      by_cases z : k = i
      · rw [z, up_eq, mC_p (by omega)]
      · rw [up_ne _ _ z, mC_n z, hA d d1 (by omega) k hk, mo_w h1 h2]
    have e5 : ∀ k, k < n - 1 → A (P + 5) k = nI (mC c i a b k 4) := fun k hk => by
      rw [hA 5 (by omega) (by omega) k hk]
      have : mC c i a b k 4 = c (mo i a b k) 4 := if_neg (fun y => y.2 rfl)
      rw [this, mo_w h1 h2]
    obtain ⟨f, g1, g2⟩ := c_findIfs (Lx := Lx) (F := F) (J := J) (A := up (up (up (up A (P + 1) (up (A (P + 1)) i (nI (c a 0)))) (P + 2) (up (A (P + 2)) i (nI (c a 1)))) (P + 3) (up (A (P + 3)) i (nI (c a 2)))) (P + 4) (up (A (P + 4)) i (nI (c a 3)))) (n := n - 1) (c := mC c i a b) hP (by omega) (by have := hv.2.1; omega) h7 (by rw [en]; exact h8) (fun k hk => (pv.b hk).1) (fun k hk => by
      simp (disch := omega) only [up_eq, up_ne]
      exact e4 1 (by omega) (by omega) k hk)
    refine ⟨up (up (up (up (up A (P + 1) (up (A (P + 1)) i (nI (c a 0)))) (P + 2) (up (A (P + 2)) i (nI (c a 1)))) (P + 3) (up (A (P + 3)) i (nI (c a 2)))) (P + 4) (up (A (P + 4)) i (nI (c a 3)))) (P + 6) f, ?_, ⟨h7, by rw [en]; exact h8, h9, fun k hk => ?_, fun j hj => ?_, fun j hj => ?_⟩, fun q hq => ?_⟩
    · rw [hX3_mergeAhead_104]
      simp (disch := omega) only [SX3_mergeAhead_0, SX3_mergeAhead_1, SX3_mergeAhead_2, Gp hP, Op hP, nI_ltI, hlt, wp1 hP, wp2 hP, wp3 hP, wp4 hP, up_ne, g1, Option.bind_some, Option.bind_none, if_true, if_false, zr0, zr1, one11, one01, one0, one1, Option.toList_some, Option.toList_none, List.cons_append, List.nil_append, Nat.reduceEqDiff, Nat.reduceAdd, not_false_eq_true, not_true_eq_false, and_true, true_and, and_false, false_and, or_true, true_or, or_false, false_or, and_self, or_self, Bool.false_eq_true]
    · simp (disch := omega) only [up_eq, up_ne]
      exact ⟨e4 1 (by omega) (by omega) k hk, e4 2 (by omega) (by omega) k hk, e4 3 (by omega) (by omega) k hk, e4 4 (by omega) (by omega) k hk, e5 k hk⟩
    · rw [up_eq]; exact g2 j hj
    · simp (disch := omega) only [up_eq, up_ne]
      exact hw j (by omega)
    · rw [up_ne _ _ (hq 6 (by omega) (by omega)), up_ne _ _ (hq 4 (by omega) (by omega)), up_ne _ _ (hq 3 (by omega) (by omega)), up_ne _ _ (hq 2 (by omega) (by omega)), up_ne _ _ (hq 1 (by omega) (by omega))]
  | succ K ih =>
    intro i A hi hia hA hw
    have hlt : p < i := by omega
    obtain ⟨A1, m1, m2, m3⟩ := c_move (Lx := Lx) (F := F) (A := A) (J := J) hP (i := i - 1) (t := i) (by omega) (by omega)
    obtain ⟨A2, g1, g2, g3⟩ := ih (i - 1) A1 (by omega) (by omega) (fun d d1 d2 k hk => by
      rw [m2 d d1 d2]
      by_cases z : k = i
      · rw [z, up_eq, hA d d1 d2 (i - 1) (by omega), if_neg (by omega), if_pos (by omega), if_pos (by omega)]
      · rw [up_ne _ _ z, hA d d1 d2 k hk]
        congr 2
        by_cases y : i < k ∧ k ≤ a
        · rw [if_pos y, if_pos (by omega)]
        · rw [if_neg y, if_neg (c := i - 1 < k ∧ k ≤ a) (by omega)]) (fun j hj => by rw [m3 (P + 7) (fun d _ _ => by omega)]; exact hw j hj)
    refine ⟨A2, ?_, g2, fun q hq => by rw [g3 q hq, m3 q (fun d d1 d2 => hq d d1 (by omega))]⟩
    have ei : nI i + (-1) = nI (i - 1) := by
      obtain ⟨q, rfl⟩ : ∃ q, i = q + 1 := ⟨i - 1, by omega⟩
      rw [nI_dec, Nat.add_sub_cancel]
    rw [hX3_mergeAhead_104]
    simp (disch := omega) only [SX3_mergeAhead_0, SX3_mergeAhead_1, SX3_mergeAhead_2, Op hP, nI_ltI, hlt, nI_s, m1, ei, g1, Option.bind_some, Option.bind_none, if_true, if_false, zr0, zr1, one11, one01, one0, one1, Option.toList_some, Option.toList_none, List.cons_append, List.nil_append, Nat.reduceEqDiff, Nat.reduceAdd, not_false_eq_true, not_true_eq_false, and_true, true_and, and_false, false_and, or_true, true_or, or_false, false_or, and_self, or_self, Bool.false_eq_true]
theorem l_mg1 (hP : isP P) (hv : PV n c ws ou) {p a b : Nat} (h1 : p < a) (h2 : a < b) (h3 : b < n) {F : Nat → Nat → Int32} (h7 : F P 7 = nI n) (l1 l5 l6 l7 l8 : Int32) : ∀ K i (A : Nat → Nat → Int32), i + K = n → b < i → (∀ d, 1 ≤ d → d ≤ 5 → ∀ k, k < n → A (P + d) k = nI (c (if k < b then k else if k + 1 < i then k + 1 else k) (d - 1))) → ∃ A', (∀ d, 1 ≤ d → d ≤ 5 → ∀ k, k < n - 1 → A' (P + d) k = nI (c (if k < b then k else k + 1) (d - 1))) ∧ (∀ q, (∀ d, 1 ≤ d → d ≤ 5 → q ≠ P + d) → A' q = A q) ∧ ∀ X : Option (Option Value × dS), den mX3_mergeAhead 104 [some (.ref P), some (.int l1), some (.int (nI p)), some (.int (nI a)), some (.int (nI b)), some (.int l5), some (.int l6), some (.int l7), some (.int l8), some (.int (nI a))] [] (mk Lx (up F P (up (F P) 7 (nI (n - 1)))) A' J) = X → den mX3_mergeAhead 66 [some (.ref P), some (.int l1), some (.int (nI p)), some (.int (nI a)), some (.int (nI b)), some (.int l5), some (.int l6), some (.int l7), some (.int l8), some (.int (nI i))] [] (mk Lx F A J) = X := by
  have hn := hv.1
  intro K
  induction K with
  | zero =>
    intro i A hi hb hA
    have hlt : ¬ i < n := by omega
    refine ⟨A, fun d d1 d2 k hk => ?_, fun _ _ => rfl, fun X hX => ?_⟩
    · rw [hA d d1 d2 k (by omega)]
      congr 2
      by_cases z : k < b
      · rw [if_pos z, if_pos z]
      · rw [if_neg z, if_neg z, if_pos (by omega)]
    · rw [hX3_mergeAhead_66]
      simp (disch := omega) only [SX3_mergeAhead_0, SX3_mergeAhead_1, SX3_mergeAhead_2, Gp hP, Pp hP, h7, nI_ltI, hlt, nI_s, hX, Option.bind_some, Option.bind_none, if_true, if_false, zr0, zr1, one11, one01, one0, one1, Option.toList_some, Option.toList_none, List.cons_append, List.nil_append, Nat.reduceEqDiff, Nat.reduceAdd, not_false_eq_true, not_true_eq_false, and_true, true_and, and_false, false_and, or_true, true_or, or_false, false_or, and_self, or_self, Bool.false_eq_true]
  | succ K ih =>
    intro i A hi hb hA
    have hlt : i < n := by omega
    obtain ⟨A1, m1, m2, m3⟩ := c_move (Lx := Lx) (F := F) (A := A) (J := J) hP (i := i) (t := i - 1) (by omega) (by omega)
    obtain ⟨A2, g1, g2, g3⟩ := ih (i + 1) A1 (by omega) (by omega) (fun d d1 d2 k hk => by
      rw [m2 d d1 d2]
      by_cases z : k = i - 1
      · rw [z, up_eq, hA d d1 d2 i hlt, if_neg (by omega), if_neg (by omega), if_neg (by omega), if_pos (by omega)]
        congr 2
        omega
      · rw [up_ne _ _ z, hA d d1 d2 k hk]
        congr 2
        by_cases y : k < b
        · rw [if_pos y, if_pos y]
        · rw [if_neg y, if_neg y]
          by_cases w : k + 1 < i
          · rw [if_pos w, if_pos (by omega)]
          · rw [if_neg w, if_neg (by omega)])
    refine ⟨A2, g1, fun q hq => by rw [g2 q hq, m3 q hq], fun X hX => ?_⟩
    have e := g3 X hX
    rw [hX3_mergeAhead_66]
    simp (disch := omega) only [SX3_mergeAhead_0, SX3_mergeAhead_1, SX3_mergeAhead_2, Gp hP, Op hP, h7, nI_ltI, hlt, nI_s, m1, nI_add, e, Option.bind_some, Option.bind_none, if_true, if_false, zr0, zr1, one11, one01, one0, one1, Option.toList_some, Option.toList_none, List.cons_append, List.nil_append, Nat.reduceEqDiff, Nat.reduceAdd, not_false_eq_true, not_true_eq_false, and_true, true_and, and_false, false_and, or_true, true_or, or_false, false_or, and_self, or_self, Bool.false_eq_true]
theorem c_mergeAhead (hP : isP P) {F A : Nat → Nat → Int32} (h : XP F A P n c ws ou) (hv : PV n c ws ou) {j a b : Nat} (hj : j < nif c n) (ea : fuA c n (2 * j + 1) = some a) (eb : fuA c n (2 * j + 2) = some b) (h5 : c a 0 ≠ 5) (hal : alk c a b = true) : ∃ A', dcall mX3_mergeAhead [.ref P, .int (nI j)] (mk Lx F A J) = some (none, mk Lx (up F P (up (F P) 7 (nI (n - 1)))) A' J) ∧ XP (up F P (up (F P) 7 (nI (n - 1)))) A' P (n - 1) (mC c (ipl c n j) a b) ws ou ∧ ∀ q, (∀ d, 1 ≤ d → d ≤ 6 → q ≠ P + d) → A' q = A q := by
  have hn := hv.1
  have hn6 := hv.2.1
  obtain ⟨o1, o2, o3⟩ := m_ord hv hj ea eb
  obtain ⟨x7, x8, x9, xc, xi, xw⟩ := id h
  have hb5 : c b 0 ≠ 5 := by rw [← alk_eq hal]; exact h5
  obtain ⟨y0, y1, y2, y3, y4⟩ := xc a (by omega)
  have f1 := c_firstUnder (Lx := Lx) (J := J) hP h hv (g := 2 * j + 1) (by omega)
  have f2 := c_firstUnder (Lx := Lx) (J := J) hP h hv (g := 2 * j + 2) (by omega)
  unfold fuA at ea eb
  rw [ea] at f1
  rw [eb] at f2
  obtain ⟨A1, g1, g2, g3⟩ := l_mg1 (Lx := Lx) (J := J) hP hv o1 o2 o3 x7 (nI j) (nI (c a 0)) (nI (c a 1)) (nI (c a 2)) (nI (c a 3)) (n - (b + 1)) (b + 1) A (by omega) (by omega) (fun d d1 d2 k hk => by
    obtain ⟨z0, z1, z2, z3, z4⟩ := xc k hk
    have e : (if k < b then k else if k + 1 < b + 1 then k + 1 else k) = k := by
      by_cases z : k < b
      · rw [if_pos z]
      · rw [if_neg z, if_neg (by omega)]
    rw [e]
    obtain rfl | rfl | rfl | rfl | rfl : d = 1 ∨ d = 2 ∨ d = 3 ∨ d = 4 ∨ d = 5 := by omega
    · exact z0
    · exact z1
    · exact z2
    · exact z3
    · exact z4)
  obtain ⟨A2, k1, k2, k3⟩ := l_mg2 (Lx := Lx) (J := J) hP hv o1 o2 o3 h5 hb5 (F := up F P (up (F P) 7 (nI (n - 1)))) (by rw [up_eq, up_eq]) (by rw [up_eq, up_ne _ _ (by omega)]; exact x8) (by rw [up_eq, up_ne _ _ (by omega)]; exact x9) (some (.int (nI j))) (some (.int (nI b))) (a - ipl c n j) a A1 (by omega) (Nat.le_refl a) (fun d d1 d2 k hk => by rw [if_neg (by omega)]; exact g1 d d1 d2 k hk) (fun i hi => by rw [g2 (P + 7) (fun d _ _ => by omega)]; exact xw i hi)
  have e := g3 _ k1
  refine ⟨A2, ?_, k2, fun q hq => by rw [k3 q hq, g2 q (fun d d1 d2 => hq d d1 (by omega))]⟩
  simp (disch := omega) only [CX3_mergeAhead, SX3_mergeAhead_0, SX3_mergeAhead_1, SX3_mergeAhead_2, Gp hP, Op hP, lep hP, ap1 hP, ap2 hP, ap3 hP, ap4 hP, ap6 hP, xi j hj, nI_m, nI_add, f1, f2, oI, y0, y1, y2, y3, e, Option.bind_some, Option.bind_none, if_true, if_false, zr0, zr1, one11, one01, one0, one1, Option.toList_some, Option.toList_none, List.cons_append, List.nil_append, Nat.reduceEqDiff, Nat.reduceAdd, not_false_eq_true, not_true_eq_false, and_true, true_and, and_false, false_and, or_true, true_or, or_false, false_or, and_self, or_self, Bool.false_eq_true]
end MERGE6B

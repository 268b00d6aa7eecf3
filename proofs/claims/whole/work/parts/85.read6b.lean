section READ6B
variable {Lx : Nat} {J : Nat → Nat → Int64} {n ou : Nat} {c : Nat → Nat → Nat} {ws : Nat → Nat}
theorem l_rd2 {F : Nat → Nat → Int32} {Q fn nn k W : Nat} (hQ : isS Q) (hW : W ≤ 13) (l1 l2 : Option Value) (cl : Nat → Int32) (hcl : ∀ q, q < W → fn + 3 * q + 3 ≤ 40 ∧ mayB n c (cl (fn + 3 * q)) (cl (fn + 3 * q + 1)) (cl (fn + 3 * q + 2)) = true) (fd : Int32) : ∀ K m (A : Nat → Nat → Int32) (l9 : Option Value), m + K = W → A (Q + 1) = cl → XP F A 12 n (chs cl fn c m) ws ou → PV n (chs cl fn c m) ws ou → ∃ A', den mX6_read 140 [some (.ref 0), l1, l2, some (.int (nI fn)), some (.int (nI nn)), some (.ref Q), some (.int fd), some (.int (nI W)), some (.int (nI m)), l9] [] (mk Lx F A J) = some (some (.int (nI W)), mk Lx (up F 0 (up (F 0) 9 fd)) A' J) ∧ XP F A' 12 n (chs cl fn c W) ws ou ∧ PV n (chs cl fn c W) ws ou ∧ ∀ q, (∀ d, 2 ≤ d → d ≤ 4 → q ≠ 12 + d) → A' q = A q := by
  have hq : Q + 1 ≤ dN := by rcases hQ with rfl | rfl | rfl | rfl <;> decide
  have q14 : ∀ d, 2 ≤ d → d ≤ 4 → Q + 1 ≠ 12 + d := fun d _ _ => by rcases hQ with rfl | rfl | rfl | rfl <;> omega
  intro K
  induction K with
  | zero =>
    intro m A l9 hm hA hX hv
    have e : m = W := by omega
    subst e
    have hlt : ¬ m < m := by omega
    refine ⟨A, ?_, hX, hv, fun _ _ => rfl⟩
    rw [hX6_read_140]
    simp (disch := omega) only [SX6_read_0, SX6_read_1, SX6_read_2, P0, nI_ltI, hlt, Option.bind_some, Option.bind_none, if_true, if_false, zr0, zr1, one11, one01, one0, one1, Option.toList_some, Option.toList_none, List.cons_append, List.nil_append, Nat.reduceEqDiff, Nat.reduceAdd, not_false_eq_true, not_true_eq_false, and_true, true_and, and_false, false_and, or_true, true_or, or_false, false_or, and_self, or_self, Bool.false_eq_true]
  | succ K ih =>
    intro m A l9 hm hA hX hv
    have hlt : m < W := by omega
    have hn := hv.1
    obtain ⟨h40, hmb⟩ := hcl m hlt
    rw [← mayB_cong (d := chs cl fn c m) (fun q => chs_k cl fn c m q)] at hmb
    obtain ⟨j, k, u, ei, ew, eu, hj, hk, es, pv⟩ := ch_step hv (mayB_iff.mp hmb)
    have cc := c_change (Lx := Lx) (F := F) (A := A) (J := J) isP_12 (nI u) (show j < 24 by omega) hk
    have x2 := XP_set (w := k) (u := u) (i := j) hX (by omega) (fun z => by omega)
    have ec : chs cl fn c (m + 1) = up (chs cl fn c m) j (up (chs cl fn c m j) k u) := by rw [chs]; exact es
    rw [← ec] at x2 pv
    obtain ⟨A2, g1, g2, g3, g4⟩ := ih (m + 1) (up A (12 + 1 + k) (up (A (12 + 1 + k)) j (nI u))) (some (.int (nI (fn + 3 * m)))) (by omega) (by rw [up_ne _ _ (by have := q14 (1 + k) (by omega) (by omega); omega)]; exact hA) x2 pv
    refine ⟨A2, ?_, g2, g3, fun q hq => by rw [g4 q hq, up_ne _ _ (by have := hq (1 + k) (by omega) (by omega); omega)]⟩
    have a0 : A (Q + 1) (fn + 3 * m) = nI j := by rw [hA]; exact ei
    have a1 : A (Q + 1) (fn + 3 * m + 1) = nI k := by rw [hA]; exact ew
    have a2 : A (Q + 1) (fn + 3 * m + 2) = nI u := by rw [hA]; exact eu
    rw [hX6_read_140]
    simp (disch := omega) only [SX6_read_0, SX6_read_1, SX6_read_2, G0, Gs hQ, Op isP_12, hq, nI_ltI, hlt, nI_m, nI_add, as1 hQ, a0, a1, a2, cc, g1, Option.bind_some, Option.bind_none, if_true, if_false, zr0, zr1, one11, one01, one0, one1, Option.toList_some, Option.toList_none, List.cons_append, List.nil_append, Nat.reduceEqDiff, Nat.reduceAdd, not_false_eq_true, not_true_eq_false, and_true, true_and, and_false, false_and, or_true, true_or, or_false, false_or, and_self, or_self, Bool.false_eq_true]
end READ6B

/-! a statement -/
def st2 (b : Nat → Nat) (t kd p : Nat) : Bool × Nat × Nat := if kd = 0 then nm b t 99 p else if kd = 5 then nm b t 10 p else vr b t p
def st3 (b : Nat → Nat) (t kd p : Nat) : Bool × Nat × Nat := if kd = 0 ∨ kd = 5 then (true, 0, p) else vr b t p
def r2 (b : Nat → Nat) (t kd e : Nat) : Bool × Nat × Nat := st2 b t kd (vr b t e).2.2
def r3 (b : Nat → Nat) (t kd e : Nat) : Bool × Nat × Nat := st3 b t kd (r2 b t kd e).2.2
def r4 (b : Nat → Nat) (t kd e : Nat) : Bool × Nat × Nat := sg b t (if kd = 5 then 123 else 59) (r3 b t kd e).2.2
/-- whole: its end; else the fault and its place -/
def stm (b : Nat → Nat) (t kd e : Nat) : Bool × Nat × Nat := if (vr b t e).1 = false then vr b t e else if (r2 b t kd e).1 = false then r2 b t kd e else if (r3 b t kd e).1 = false then r3 b t kd e else r4 b t kd e
theorem vr_ok {b : Nat → Nat} {t p : Nat} (hp : p ≤ t) (h : (vr b t p).1 = true) : p < (vr b t p).2.2 ∧ (vr b t p).2.2 ≤ t ∧ (vr b t p).2.1 ≤ 7 ∧ (vr b t p).2.2 = tE b t p ∧ tK b t p = 1 ∧ tE b t p = tS b t p + 1 ∧ 97 ≤ b (tS b t p) ∧ b (tS b t p) ≤ 104 ∧ (vr b t p).2.1 = b (tS b t p) - 97 := by
  have hl := t_le (b := b) hp
  unfold vr at h ⊢
  by_cases k7 : tK b t p = 7
  · rw [if_pos k7] at h; cases h
  · rw [if_neg k7] at h ⊢
    by_cases c : tK b t p = 1 ∧ tE b t p = tS b t p + 1 ∧ b (tS b t p) ≤ 104
    · rw [if_pos c]
      have := hl.2.2.2 (by omega)
      have q := tK1 c.1
      exact ⟨by show p < tE b t p; omega, by show tE b t p ≤ t; omega, by show b (tS b t p) - 97 ≤ 7; omega, rfl, c.1, c.2.1, q.2.1, c.2.2, rfl⟩
    · rw [if_neg c] at h; cases h
theorem nm_ok {b : Nat → Nat} {t m p : Nat} (hp : p ≤ t) (h : (nm b t m p).1 = true) : p < (nm b t m p).2.2 ∧ (nm b t m p).2.2 ≤ t ∧ (nm b t m p).2.1 ≤ m ∧ (nm b t m p).2.2 = tE b t p ∧ tK b t p = 2 ∧ (nm b t m p).2.1 = tV b t p := by
  have hl := t_le (b := b) hp
  unfold nm at h ⊢
  by_cases k7 : tK b t p = 7
  · rw [if_pos k7] at h; cases h
  · rw [if_neg k7] at h ⊢
    by_cases c : tK b t p = 2
    · rw [if_pos c] at h ⊢
      by_cases w : tV b t p ≤ m
      · rw [if_pos w]
        have := hl.2.2.2 (by omega)
        exact ⟨by show p < tE b t p; omega, by show tE b t p ≤ t; omega, w, rfl, c, rfl⟩
      · rw [if_neg w] at h; cases h
    · rw [if_neg c] at h; cases h
theorem sg_ok {b : Nat → Nat} {t x p : Nat} (hx : x ≠ 0) (hp : p ≤ t) (h : (sg b t x p).1 = true) : p < (sg b t x p).2.2 ∧ (sg b t x p).2.2 ≤ t ∧ (sg b t x p).2.2 = tE b t p ∧ tK b t p = x ∧ tK b t p ≠ 7 := by
  have hl := t_le (b := b) hp
  unfold sg at h ⊢
  by_cases k7 : tK b t p = 7
  · rw [if_pos k7] at h; cases h
  · rw [if_neg k7] at h ⊢
    by_cases c : tK b t p = x
    · rw [if_pos c]
      have := hl.2.2.2 (by omega)
      exact ⟨by show p < tE b t p; omega, by show tE b t p ≤ t; omega, rfl, c, k7⟩
    · rw [if_neg c] at h; cases h
theorem st2_ok {b : Nat → Nat} {t kd p : Nat} (hp : p ≤ t) (h : (st2 b t kd p).1 = true) : p < (st2 b t kd p).2.2 ∧ (st2 b t kd p).2.2 ≤ t ∧ (st2 b t kd p).2.1 ≤ (if kd = 0 then 99 else if kd = 5 then 10 else 7) ∧ (st2 b t kd p).2.2 = tE b t p := by
  unfold st2 at h ⊢
  by_cases k0 : kd = 0
  · rw [if_pos k0] at h ⊢
    rw [if_pos k0]
    have := nm_ok hp h
    exact ⟨this.1, this.2.1, this.2.2.1, this.2.2.2.1⟩
  · rw [if_neg k0] at h ⊢
    rw [if_neg k0]
    by_cases k5 : kd = 5
    · rw [if_pos k5] at h ⊢
      rw [if_pos k5]
      have := nm_ok hp h
      exact ⟨this.1, this.2.1, this.2.2.1, this.2.2.2.1⟩
    · rw [if_neg k5] at h ⊢
      rw [if_neg k5]
      have := vr_ok hp h
      exact ⟨this.1, this.2.1, this.2.2.1, this.2.2.2.1⟩
theorem st3_ok {b : Nat → Nat} {t kd p : Nat} (hp : p ≤ t) (h : (st3 b t kd p).1 = true) : p ≤ (st3 b t kd p).2.2 ∧ (st3 b t kd p).2.2 ≤ t ∧ (st3 b t kd p).2.1 ≤ 7 := by
  unfold st3 at h ⊢
  by_cases k0 : kd = 0 ∨ kd = 5
  · rw [if_pos k0]
    exact ⟨Nat.le_refl p, hp, by show 0 ≤ 7; omega⟩
  · rw [if_neg k0] at h ⊢
    have := vr_ok hp h
    exact ⟨by omega, this.2.1, this.2.2.1⟩
theorem stm_ok {b : Nat → Nat} {t kd e : Nat} (he : e ≤ t) (h : (stm b t kd e).1 = true) : (vr b t e).1 = true ∧ (r2 b t kd e).1 = true ∧ (r3 b t kd e).1 = true ∧ (r4 b t kd e).1 = true ∧ stm b t kd e = r4 b t kd e ∧ e < (stm b t kd e).2.2 ∧ (stm b t kd e).2.2 ≤ t ∧ (vr b t e).2.1 ≤ 7 ∧ (r2 b t kd e).2.1 ≤ (if kd = 0 then 99 else if kd = 5 then 10 else 7) ∧ (r3 b t kd e).2.1 ≤ 7 := by
  have hx : (if kd = 5 then 123 else 59) ≠ 0 := by split <;> decide
  unfold stm at h
  cases c1 : (vr b t e).1 with
  | false => rw [if_pos c1, c1] at h; cases h
  | true =>
    rw [if_neg (by rw [c1]; decide)] at h
    have o1 := vr_ok he c1
    cases c2 : (r2 b t kd e).1 with
    | false => rw [if_pos c2, c2] at h; cases h
    | true =>
      rw [if_neg (by rw [c2]; decide)] at h
      have o2 := st2_ok o1.2.1 c2
      cases c3 : (r3 b t kd e).1 with
      | false => rw [if_pos c3, c3] at h; cases h
      | true =>
        rw [if_neg (by rw [c3]; decide)] at h
        have o3 := st3_ok o2.2.1 c3
        have o4 := sg_ok hx o3.2.1 h
        have es : stm b t kd e = r4 b t kd e := by
          unfold stm
          rw [if_neg (by rw [c1]; decide), if_neg (by rw [c2]; decide), if_neg (by rw [c3]; decide)]
        rw [es]
        have a3 : (r2 b t kd e).2.2 ≤ (r3 b t kd e).2.2 := o3.1
        have a4 : (r3 b t kd e).2.2 < (r4 b t kd e).2.2 := o4.1
        have a2 : (vr b t e).2.2 < (r2 b t kd e).2.2 := o2.1
        exact ⟨rfl, rfl, rfl, h, rfl, by omega, o4.2.1, o1.2.2.1, o2.2.2.1, o3.2.2⟩
/-! the draft grows -/
def rowf (kd v1 v2 v3 g : Nat) : Nat → Nat := fun w => if w = 0 then kd else if w = 1 then v1 else if w = 2 then v2 else if w = 3 then v3 else g
theorem ipl_cong {c d : Nat → Nat → Nat} {j : Nat} : ∀ n, (∀ i, i < n → c i 0 = d i 0) → ipl c n j = ipl d n j
  | 0, _ => rfl
  | n + 1, h => by rw [ipl, ipl, ipl_cong n (fun i hi => h i (by omega)), nif_cong (fun i hi => h i (by omega)), h n (by omega)]
theorem ap_nif {c : Nat → Nat → Nat} {n : Nat} (r : Nat → Nat) : nif (up c n r) n = nif c n := nif_cong (fun i hi => by rw [up_ne _ _ (by omega)])
theorem ap_nif1 {c : Nat → Nat → Nat} {n : Nat} (r : Nat → Nat) : nif (up c n r) (n + 1) = nif c n + if r 0 = 5 then 1 else 0 := by rw [nif, ap_nif, up_eq]
theorem ap_ipl {c : Nat → Nat → Nat} {n j : Nat} (r : Nat → Nat) (hj : j < nif c n) : ipl (up c n r) (n + 1) j = ipl c n j := by
  rw [ipl, ap_nif, if_neg (by omega)]
  exact ipl_cong n (fun i hi => by rw [up_ne _ _ (by omega)])
theorem ap_ipl5 {c : Nat → Nat → Nat} {n : Nat} (r : Nat → Nat) (h5 : r 0 = 5) : ipl (up c n r) (n + 1) (nif c n) = n := by
  rw [ipl, ap_nif, up_eq, if_pos ⟨h5, rfl⟩]
section APP
variable {Lx : Nat} {F A : Nat → Nat → Int32} {J : Nat → Nat → Int64} {P n ou : Nat} {c : Nat → Nat → Nat}
theorem c_append (hP : isP P) (h : XP F A P n c (fun _ => 2) ou) {kd v1 v2 v3 g : Nat} (hn : n < 24) (hk : kd ≤ 5) (h6 : kd = 5 → nif c n < 6) : ∃ F' A', dcall mX3_append [.ref P, .int (nI kd), .int (nI v1), .int (nI v2), .int (nI v3), .int (nI g)] (mk Lx F A J) = some (none, mk Lx F' A' J) ∧ XP F' A' P (n + 1) (up c n (rowf kd v1 v2 v3 g)) (fun _ => 2) ou ∧ (∀ p, p ≠ P → F' p = F p) ∧ ∀ q, (q < P + 1 ∨ P + 7 < q) → A' q = A q := by
  obtain ⟨x7, x8, x9, xc, xi, xw⟩ := h
  have r0 : rowf kd v1 v2 v3 g 0 = kd := rfl
  have en := ap_nif1 (c := c) (n := n) (rowf kd v1 v2 v3 g)
  rw [r0] at en
  by_cases k5 : kd = 5
  · have n6 := h6 k5
    rw [if_pos k5] at en
    refine ⟨up F P (up (up (F P) 8 (nI (nif c n + 1))) 7 (nI (n + 1))), up (up (up (up (up (up (up A (P + 1) (up (A (P + 1)) n (nI kd))) (P + 2) (up (A (P + 2)) n (nI v1))) (P + 3) (up (A (P + 3)) n (nI v2))) (P + 4) (up (A (P + 4)) n (nI v3))) (P + 5) (up (A (P + 5)) n (nI g))) (P + 6) (up (A (P + 6)) (nif c n) (nI n))) (P + 7) (up (A (P + 7)) (nif c n) (nI 2)), ?_, ⟨?_, ?_, ?_, fun i hi => ?_, fun j hj => ?_, fun j hj => ?_⟩, fun p hp => up_ne _ _ hp, fun q hq => ?_⟩
    · rw [k5]
      simp (disch := omega) only [CX3_append, SX3_append_0, SX3_append_1, Gp hP, Pp hP, x7, x8, wp1 hP, wp2 hP, wp3 hP, wp4 hP, wp5 hP, wp6 hP, wp7 hP, up_eq, up_ne, up_up, nI_add, eq_self_iff_true, Option.bind_some, Option.bind_none, if_true, if_false, zr0, zr1, one11, one01, one0, one1, Option.toList_some, Option.toList_none, List.cons_append, List.nil_append, Nat.reduceEqDiff, Nat.reduceAdd, not_false_eq_true, not_true_eq_false, and_true, true_and, and_false, false_and, or_true, true_or, or_false, false_or, and_self, or_self, Bool.false_eq_true]
    · simp only [up_eq]
    · rw [en]; simp (disch := omega) only [up_eq, up_ne]
    · simp (disch := omega) only [up_eq, up_ne]; exact x9
    · simp (disch := omega) only [up_eq, up_ne]
      by_cases z : i = n
      · rw [z, up_eq, up_eq, up_eq, up_eq, up_eq, up_eq]
        exact ⟨rfl, rfl, rfl, rfl, rfl⟩
      · rw [up_ne _ _ z, up_ne _ _ z, up_ne _ _ z, up_ne _ _ z, up_ne _ _ z, up_ne _ _ z]
        exact xc i (by omega)
    · rw [en] at hj
      simp (disch := omega) only [up_eq, up_ne]
      by_cases z : j = nif c n
      · rw [z, up_eq, ap_ipl5 _ (by rw [r0]; exact k5)]
      · rw [up_ne _ _ z, ap_ipl _ (by omega)]
        exact xi j (by omega)
    · rw [en] at hj
      simp (disch := omega) only [up_eq, up_ne]
      by_cases z : j = nif c n
      · rw [z, up_eq]
      · rw [up_ne _ _ z]
        exact xw j (by omega)
    · simp (disch := omega) only [up_ne]
  · rw [if_neg k5] at en
    refine ⟨up F P (up (F P) 7 (nI (n + 1))), up (up (up (up (up A (P + 1) (up (A (P + 1)) n (nI kd))) (P + 2) (up (A (P + 2)) n (nI v1))) (P + 3) (up (A (P + 3)) n (nI v2))) (P + 4) (up (A (P + 4)) n (nI v3))) (P + 5) (up (A (P + 5)) n (nI g)), ?_, ⟨?_, ?_, ?_, fun i hi => ?_, fun j hj => ?_, fun j hj => ?_⟩, fun p hp => up_ne _ _ hp, fun q hq => ?_⟩
    · simp (disch := omega) only [CX3_append, SX3_append_0, SX3_append_1, Gp hP, Pp hP, x7, x8, wp1 hP, wp2 hP, wp3 hP, wp4 hP, wp5 hP, up_eq, up_ne, up_up, nI_add, nI_eq, k5, Option.bind_some, Option.bind_none, if_true, if_false, zr0, zr1, one11, one01, one0, one1, Option.toList_some, Option.toList_none, List.cons_append, List.nil_append, Nat.reduceEqDiff, Nat.reduceAdd, not_false_eq_true, not_true_eq_false, and_true, true_and, and_false, false_and, or_true, true_or, or_false, false_or, and_self, or_self, Bool.false_eq_true]
    · simp only [up_eq]
    · rw [en]; simp (disch := omega) only [up_eq, up_ne]; exact x8
    · simp (disch := omega) only [up_eq, up_ne]; exact x9
    · simp (disch := omega) only [up_eq, up_ne]
      by_cases z : i = n
      · rw [z, up_eq, up_eq, up_eq, up_eq, up_eq, up_eq]
        exact ⟨rfl, rfl, rfl, rfl, rfl⟩
      · rw [up_ne _ _ z, up_ne _ _ z, up_ne _ _ z, up_ne _ _ z, up_ne _ _ z, up_ne _ _ z]
        exact xc i (by omega)
    · simp (disch := omega) only [up_eq, up_ne]
      rw [ap_ipl _ (by omega)]
      exact xi j (by omega)
    · simp (disch := omega) only [up_eq, up_ne]
      exact xw j (by omega)
    · simp (disch := omega) only [up_ne]
theorem c_room (hP : isP P) (h : XP F A P n c (fun _ => 2) ou) {kd : Nat} (hn : n ≤ 24) (h6 : nif c n ≤ 6) (hk : kd ≤ 5) : dcall mX3_hasRoomFor [.ref P, .int (nI kd)] (mk Lx F A J) = some (some (.int (if n < 24 ∧ (kd = 5 → nif c n < 6) then nI 1 else nI 0)), mk Lx F A J) := by
  obtain ⟨x7, x8, -⟩ := h
  by_cases h1 : n < 24
  · by_cases k5 : kd = 5
    · by_cases h2 : nif c n < 6
      · rw [if_pos ⟨h1, fun _ => h2⟩, k5]
        simp (disch := omega) only [CX3_hasRoomFor, SX3_hasRoomFor, Gp hP, x7, x8, nI_ltI, h1, h2, eq_self_iff_true, Option.bind_some, Option.bind_none, if_true, if_false, zr0, zr1, one11, one01, one0, one1, Option.toList_some, Option.toList_none, List.cons_append, List.nil_append, Nat.reduceEqDiff, Nat.reduceAdd, not_false_eq_true, not_true_eq_false, and_true, true_and, and_false, false_and, or_true, true_or, or_false, false_or, and_self, or_self, Bool.false_eq_true]
      · rw [if_neg (fun y => h2 (y.2 k5)), k5]
        simp (disch := omega) only [CX3_hasRoomFor, SX3_hasRoomFor, Gp hP, x7, x8, nI_ltI, h1, h2, eq_self_iff_true, Option.bind_some, Option.bind_none, if_true, if_false, zr0, zr1, one11, one01, one0, one1, Option.toList_some, Option.toList_none, List.cons_append, List.nil_append, Nat.reduceEqDiff, Nat.reduceAdd, not_false_eq_true, not_true_eq_false, and_true, true_and, and_false, false_and, or_true, true_or, or_false, false_or, and_self, or_self, Bool.false_eq_true]
    · rw [if_pos ⟨h1, fun z => absurd z k5⟩]
      simp (disch := omega) only [CX3_hasRoomFor, SX3_hasRoomFor, Gp hP, x7, nI_ltI, h1, nI_eq, k5, Option.bind_some, Option.bind_none, if_true, if_false, zr0, zr1, one11, one01, one0, one1, Option.toList_some, Option.toList_none, List.cons_append, List.nil_append, Nat.reduceEqDiff, Nat.reduceAdd, not_false_eq_true, not_true_eq_false, and_true, true_and, and_false, false_and, or_true, true_or, or_false, false_or, and_self, or_self, Bool.false_eq_true]
  · rw [if_neg (fun y => h1 y.1)]
    simp (disch := omega) only [CX3_hasRoomFor, SX3_hasRoomFor, Gp hP, x7, nI_ltI, h1, Option.bind_some, Option.bind_none, if_true, if_false, zr0, zr1, one11, one01, one0, one1, Option.toList_some, Option.toList_none, List.cons_append, List.nil_append, Nat.reduceEqDiff, Nat.reduceAdd, not_false_eq_true, not_true_eq_false, and_true, true_and, and_false, false_and, or_true, true_or, or_false, false_or, and_self, or_self, Bool.false_eq_true]
end APP

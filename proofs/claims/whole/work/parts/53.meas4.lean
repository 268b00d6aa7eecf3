section MEASD
variable {Lx : Nat} {F A A' : Nat → Nat → Int32} {J : Nat → Nat → Int64} {P n ou : Nat} {c : Nat → Nat → Nat} {ws : Nat → Nat}
theorem Inv.frA (h : Inv F A) (hA : ∀ q, q ≠ 23 → q ≠ 24 → q ≠ 26 → q ≠ 63 → q ≠ 65 → A' q = A q) : Inv F A' := by
  obtain ⟨hT, hP, ⟨hI0, hI1⟩, hR, ⟨hS0, hS1, hS2, hS3⟩, hf, hto⟩ := h
  refine ⟨hT.fr rfl rfl (by apply hA <;> omega) (by apply hA <;> omega), hP.fr rfl (fun d _ _ => by apply hA <;> omega) (by apply hA <;> omega), ⟨hI0.fr rfl (fun d _ _ => by apply hA <;> omega) (by rw [hA] <;> omega) (by rw [hA] <;> omega) (fun t _ => by rw [hA] <;> omega), hI1.fr rfl (fun d _ _ => by apply hA <;> omega) (by rw [hA] <;> omega) (by rw [hA] <;> omega) (fun t _ => by rw [hA] <;> omega)⟩, hR.fr rfl rfl rfl rfl (by apply hA <;> omega) (by apply hA <;> omega), ⟨hS0.fr rfl (by apply hA <;> omega) (by rw [hA] <;> omega) (by rw [hA] <;> omega) (fun t _ => by rw [hA] <;> omega), hS1.fr rfl (by apply hA <;> omega) (by rw [hA] <;> omega) (by rw [hA] <;> omega) (fun t _ => by rw [hA] <;> omega), hS2.fr rfl (by apply hA <;> omega) (by rw [hA] <;> omega) (by rw [hA] <;> omega) (fun t _ => by rw [hA] <;> omega), hS3.fr rfl (by apply hA <;> omega) (by rw [hA] <;> omega) (by rw [hA] <;> omega) (fun t _ => by rw [hA] <;> omega)⟩, hf, hto⟩
/-- what the class has measured -/
def MZ (c : Nat → Nat → Nat) (n : Nat) (ws : Nat → Nat) (A : Nat → Nat → Int32) (J : Nat → Nat → Int64) : Prop :=
  (∀ k, k < n → A 23 k = nI (fL c n (kap c) k)) ∧ (∀ g, g ≤ 2 * nif c n → A 24 g = nI (fG c n (kap c) g)) ∧ (∀ g, g ≤ 2 * nif c n → J 25 g = lN (mG c n ws g)) ∧ ∀ j, j < nif c n → A 26 j = zI (gu c n ws j)
theorem c_fill24 (v : Int32) : dcall mJ7_fill_53178 [.ref 24, .int v] (mk Lx F A J) = some (none, mk Lx F (up A 24 (fun j => if j < 13 then v else A 24 j)) J) := c_fill (by decide) (fun _ _ _ => rfl) (by decide) v
theorem c_measure (hP : isP P) (hx : XP F A P n c ws ou) (hv : PV n c ws ou) : ∃ A' J', dcall mX0_measure [.ref 22, .ref P] (mk Lx F A J) = some (none, mk Lx F A' J') ∧ MZ c n ws A' J' ∧ (∀ q, q ≠ 23 → q ≠ 24 → q ≠ 26 → A' q = A q) ∧ ∀ q, q ≠ 25 → J' q = J q := by
  have hn6 := hv.2.1
  have e24 : ∀ d, 1 ≤ d → d ≤ 7 → P + d ≠ 23 ∧ P + d ≠ 24 ∧ P + d ≠ 26 := fun d _ _ => by rcases hP with rfl | rfl | rfl | rfl <;> omega
  obtain ⟨A1, J1, l4, g1, ⟨m1, m2, m3, m4⟩, g3, g4⟩ := l_meas (Lx := Lx) hP hv n (up A 24 (fun j => if j < 13 then nI 0 else A 24 j)) (up J 25 (fun j => if j < 13 then lN 0 else J 25 j)) none (Nat.le_refl n) (hx.fr rfl (fun d h1 h2 => up_ne _ _ (e24 d h1 h2).2.1)) ⟨fun k h1 h2 => absurd h1 (by omega), fun g hg => by rw [up_eq, tsG_end, if_pos (by omega)], fun g hg => by rw [up_eq, tsG_end, if_pos (by omega)], fun k h1 h2 => absurd h1 (by omega)⟩
  have hx1 : XP F A1 P n c ws ou := hx.fr rfl (fun d h1 h2 => by rw [g3 _ (e24 d h1 h2).1 (e24 d h1 h2).2.1 (e24 d h1 h2).2.2, up_ne _ _ (e24 d h1 h2).2.1])
  obtain ⟨A2, k1, k2, k3⟩ := l_gi (Lx := Lx) (J := J1) (ws := ws) hP hv (nif c n) 0 A1 none (by omega) hx1 (fun q hq => absurd hq (by omega)) (fun q _ hq => by
    obtain ⟨i1, i2, i3⟩ := ipl_spec hq
    have := m4 (ipl c n q) (Nat.zero_le _) i1 i2
    rw [i3] at this
    exact this)
  have hgi : dcall mX0_guardInner [.ref 22, .ref P] (mk Lx F A1 J1) = some (none, mk Lx F A2 J1) := by
    simp only [CX0_guardInner, SX0_guardInner, k1, Option.bind_some, Option.bind_none, if_true, if_false, zr0, zr1, one11, one01, one0, one1, Option.toList_some, Option.toList_none, List.cons_append, List.nil_append, Nat.reduceEqDiff, Nat.reduceAdd, not_false_eq_true, not_true_eq_false, and_true, true_and, and_false, false_and, or_true, true_or, or_false, false_or, and_self, or_self, Bool.false_eq_true]
  have en : nI n - nI 1 = nI n + (-1) := by rw [Int32.sub_eq_add_neg]; congr 1
  refine ⟨A2, J1, ?_, ⟨fun k hk => ?_, fun g hg => ?_, fun g hg => ?_, k2⟩, fun q h1 h2 h3 => ?_, fun q h1 => ?_⟩
  · simp (disch := omega) only [CX0_measure, SX0_measure_0, SX0_measure_1, SX0_measure_2, G22, Gp hP, c_fill24, c_fillJ, hx.1, hx.2.1, en, g1, O22, hgi, Option.bind_some, Option.bind_none, if_true, if_false, zr0, zr1, one11, one01, one0, one1, Option.toList_some, Option.toList_none, List.cons_append, List.nil_append, Nat.reduceEqDiff, Nat.reduceAdd, not_false_eq_true, not_true_eq_false, and_true, true_and, and_false, false_and, or_true, true_or, or_false, false_or, and_self, or_self, Bool.false_eq_true]
  · rw [k3 23 (by decide)]; exact m1 k (Nat.zero_le _) hk
  · rw [k3 24 (by decide), m2 g (by omega), tsG_all, ← fG_eq hv (kap c) hg]
  · rw [m3 g (by omega), tsG_all, ← mG_eq hv hg]
  · rw [k3 q h3, g3 q h1 h2 h3, up_ne _ _ h2]
  · rw [g4 q h1, up_ne _ _ h1]
theorem c_measured (hx : XP F A 12 n c ws ou) (hv : PV n c ws ou) : ∃ A' J', dcall mX6_measured [.ref 0] (mk Lx F A J) = some (some (.ref 22), mk Lx F A' J') ∧ MZ c n ws A' J' ∧ (∀ q, q ≠ 23 → q ≠ 24 → q ≠ 26 → A' q = A q) ∧ ∀ q, q ≠ 25 → J' q = J q := by
  obtain ⟨A1, J1, g1, g2, g3, g4⟩ := c_measure (Lx := Lx) (J := J) (P := 12) isP_12 hx hv
  refine ⟨A1, J1, ?_, g2, g3, g4⟩
  simp only [CX6_measured, SX6_measured, G0, O22, g1, Option.bind_some, Option.bind_none, if_true, if_false, zr0, zr1, one11, one01, one0, one1, Option.toList_some, Option.toList_none, List.cons_append, List.nil_append, Nat.reduceEqDiff, Nat.reduceAdd, not_false_eq_true, not_true_eq_false, and_true, true_and, and_false, false_and, or_true, true_or, or_false, false_or, and_self, or_self, Bool.false_eq_true]
/-- how many ifs are guarded -/
def guM (c : Nat → Nat → Nat) (n : Nat) (ws : Nat → Nat) (i k : Nat) : Nat := sumF (fun j => if gu c n ws j = true then 1 else 0) i k
theorem zI_nI (b : Bool) : zI b = nI (if b = true then 1 else 0) := by cases b <;> rfl
theorem l_gIfs (hP : isP P) (hx : XP F A P n c ws ou) (hv : PV n c ws ou) (hz : ∀ j, j < nif c n → A 26 j = zI (gu c n ws j)) : ∀ k j m, j + k = nif c n → den mX0_guardedIfs 4 [some (.ref 22), some (.ref P), some (.int (nI m)), some (.int (nI j))] [] (mk Lx F A J) = some (some (.int (nI (m + guM c n ws j k))), mk Lx F A J) := by
  have hn6 := hv.2.1
  intro k
  induction k with
  | zero =>
    intro j m hj
    have hlt : ¬ j < nif c n := by omega
    rw [hX0_guardedIfs_4]
    simp (disch := omega) only [SX0_guardedIfs, Gp hP, hx.2.1, nI_ltI, hlt, guM, sumF, Nat.add_zero, Option.bind_some, Option.bind_none, if_true, if_false, zr0, zr1, one11, one01, one0, one1, Option.toList_some, Option.toList_none, List.cons_append, List.nil_append, Nat.reduceEqDiff, Nat.reduceAdd, not_false_eq_true, not_true_eq_false, and_true, true_and, and_false, false_and, or_true, true_or, or_false, false_or, and_self, or_self, Bool.false_eq_true]
  | succ k ih =>
    intro j m hj
    have hlt : j < nif c n := by omega
    have e := ih (j + 1) (m + (if gu c n ws j = true then 1 else 0)) (by omega)
    rw [hX0_guardedIfs_4]
    simp (disch := omega) only [SX0_guardedIfs, Gp hP, G22, hx.2.1, nI_ltI, hlt, a26, hz j hlt, c_oneIf, zI_fl, nI_add, Option.bind_some, Option.bind_none, if_true, if_false, zr0, zr1, one11, one01, one0, one1, Option.toList_some, Option.toList_none, List.cons_append, List.nil_append, Nat.reduceEqDiff, Nat.reduceAdd, not_false_eq_true, not_true_eq_false, and_true, true_and, and_false, false_and, or_true, true_or, or_false, false_or, and_self, or_self, Bool.false_eq_true]
    rw [zI_nI, nI_add, e, guM, guM, sumF, Nat.add_assoc]
end MEASD

def bR (R : Bool × Nat × Nat) (k : Nat → Bool × Nat × Nat) : Bool × Nat × Nat := if R.1 = false then R else k R.2.2
theorem bR_stm (b : Nat → Nat) (t kd e : Nat) : bR (bR (bR (vr b t e) (st2 b t kd)) (st3 b t kd)) (sg b t (if kd = 5 then 123 else 59)) = stm b t kd e := by
  unfold stm bR
  by_cases c1 : (vr b t e).1 = false
  · simp only [if_pos c1]
  · simp only [if_neg c1]
    have e2 : st2 b t kd (vr b t e).2.2 = r2 b t kd e := rfl
    rw [e2]
    by_cases c2 : (r2 b t kd e).1 = false
    · simp only [if_pos c2]
    · simp only [if_neg c2]
      have e3 : st3 b t kd (r2 b t kd e).2.2 = r3 b t kd e := rfl
      rw [e3]
      by_cases c3 : (r3 b t kd e).1 = false
      · simp only [if_pos c3]
      · simp only [if_neg c3]
        rfl
section STM7
variable {Lx : Nat} {F A : Nat → Nat → Int32} {J : Nat → Nat → Int64} {b : Nat → Nat} {t n d : Nat} {c : Nat → Nat → Nat} {o : Nat → Nat}
theorem c_rv (h : tpM F A b t) {g : Nat → Int32} (h5 : g 5 = nI t) {R : Bool × Nat × Nat} (hg : GO g b t R) : ∃ f x, dcall mX7_readVariable [.ref 56] (mk Lx (up F 56 g) A J) = some (some (.int x), mk Lx (up F 56 f) A J) ∧ GO f b t (bR R (vr b t)) ∧ fr6 g f ∧ (R.1 = true → (vr b t R.2.2).1 = true → x = nI (vr b t R.2.2).2.1) := by
  unfold bR
  by_cases hR : R.1 = false
  · obtain ⟨x, e⟩ := c_readVariableF (Lx := Lx) (J := J) (h.fr h5) (e := R.2.1) (q := R.2.2) (by rw [up_eq]; exact hg.2 hR)
    rw [if_pos hR]
    exact ⟨g, x, e, hg, fun _ _ _ _ _ _ _ => rfl, fun z => absurd (z.symm.trans hR) (by decide)⟩
  · have hRt : R.1 = true := by simpa using hR
    obtain ⟨f, x, e1, e2, e3, e4⟩ := c_readVariable (Lx := Lx) (J := J) (h.fr h5) (p := R.2.2) (by rw [up_eq]; exact hg.1 hRt)
    rw [up_up] at e1
    rw [up_eq] at e3
    rw [if_neg hR]
    exact ⟨f, x, e1, e2, e3, fun _ => e4⟩
theorem c_rn (h : tpM F A b t) {g : Nat → Int32} (h5 : g 5 = nI t) {m : Nat} (hm : m ≤ 99) {R : Bool × Nat × Nat} (hg : GO g b t R) : ∃ f x, dcall mX7_readNumber [.ref 56, .int (nI 0), .int (nI m)] (mk Lx (up F 56 g) A J) = some (some (.int x), mk Lx (up F 56 f) A J) ∧ GO f b t (bR R (nm b t m)) ∧ fr6 g f ∧ (R.1 = true → (nm b t m R.2.2).1 = true → x = nI (nm b t m R.2.2).2.1) := by
  unfold bR
  by_cases hR : R.1 = false
  · have e := c_readNumberF (Lx := Lx) (A := A) (J := J) (F := up F 56 g) (e := R.2.1) (q := R.2.2) (by rw [up_eq]; exact hg.2 hR) (nI 0) (nI m)
    rw [if_pos hR]
    exact ⟨g, nI 0, e, hg, fun _ _ _ _ _ _ _ => rfl, fun z => absurd (z.symm.trans hR) (by decide)⟩
  · have hRt : R.1 = true := by simpa using hR
    obtain ⟨f, x, e1, e2, e3, e4⟩ := c_readNumber (Lx := Lx) (J := J) (h.fr h5) (p := R.2.2) hm (by rw [up_eq]; exact hg.1 hRt)
    rw [up_up] at e1
    rw [up_eq] at e3
    rw [if_neg hR]
    exact ⟨f, x, e1, e2, e3, fun _ => e4⟩
theorem c_tk (h : tpM F A b t) {g : Nat → Int32} (h5 : g 5 = nI t) {x y : Nat} (hxy : (x = 59 ∧ y = 3) ∨ (x = 123 ∧ y = 4)) {R : Bool × Nat × Nat} (hg : GO g b t R) : ∃ f, dcall mX7_takes [.ref 56, .int (nI y)] (mk Lx (up F 56 g) A J) = some (none, mk Lx (up F 56 f) A J) ∧ GO f b t (bR R (sg b t x)) ∧ fr6 g f := by
  unfold bR
  by_cases hR : R.1 = false
  · have e := c_takesF (Lx := Lx) (A := A) (J := J) (F := up F 56 g) (e := R.2.1) (q := R.2.2) (by rw [up_eq]; exact hg.2 hR) (nI y)
    rw [if_pos hR]
    exact ⟨g, e, hg, fun _ _ _ _ _ _ _ => rfl⟩
  · have hRt : R.1 = true := by simpa using hR
    obtain ⟨f, e1, e2, e3⟩ := c_takes (Lx := Lx) (J := J) (h.fr h5) (p := R.2.2) hxy (by rw [up_eq]; exact hg.1 hRt)
    rw [up_up] at e1
    rw [up_eq] at e3
    rw [if_neg hR]
    exact ⟨f, e1, e2, e3⟩
/-- the reference while it reads -/
def cm (F A : Nat → Nat → Int32) (b : Nat → Nat) (t n : Nat) (c : Nat → Nat → Nat) (d : Nat) (o : Nat → Nat) : Prop := tpM F A b t ∧ M0 (A 60) n c (fun _ => 2) 255 ∧ (∀ j, j < 6 → A 60 (122 + j) = nI 2) ∧ (∀ s, 5 * n ≤ s → s < 120 → A 60 s = nI 0) ∧ F 56 13 = nI d ∧ F 56 14 = nI (nif c n) ∧ ∀ i, i < d → A 62 i = nI (o i)
end STM7

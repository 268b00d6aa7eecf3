/-! merge: what both sides begin with comes ahead of the if -/
def fuA (c : Nat → Nat → Nat) (n g : Nat) : Option Nat := fstF (fun i => c i 4 == g) 0 n
def alk (c : Nat → Nat → Nat) (a b : Nat) : Bool := c a 0 == c b 0 && (c a 1 == c b 1 && (c a 2 == c b 2 && c a 3 == c b 3))
def mmB (c : Nat → Nat → Nat) (n j : Nat) : Bool := match fuA c n (2 * j + 1), fuA c n (2 * j + 2) with
  | some a, some b => c a 0 != 5 && (alk c a b && c a 1 != c (ipl c n j) 1)
  | _, _ => false
def mo (p a b k : Nat) : Nat := if k ≤ p then k else if k ≤ a then k - 1 else if k < b then k else k + 1
def mC (c : Nat → Nat → Nat) (p a b : Nat) : Nat → Nat → Nat := fun k w => if k = p ∧ w ≠ 4 then c a w else c (mo p a b k) w
theorem mC_p {c : Nat → Nat → Nat} {p a b w : Nat} (h : w ≠ 4) : mC c p a b p w = c a w := if_pos ⟨rfl, h⟩
theorem mC_n {c : Nat → Nat → Nat} {p a b k w : Nat} (h : k ≠ p) : mC c p a b k w = c (mo p a b k) w := if_neg (fun y => h y.1)
theorem mmB_iff {c : Nat → Nat → Nat} {n j : Nat} : mmB c n j = true ↔ ∃ a b, fuA c n (2 * j + 1) = some a ∧ fuA c n (2 * j + 2) = some b ∧ c a 0 ≠ 5 ∧ alk c a b = true ∧ c a 1 ≠ c (ipl c n j) 1 := by
  unfold mmB
  cases ha : fuA c n (2 * j + 1) with
  | none => simp
  | some a =>
    cases hb : fuA c n (2 * j + 2) with
    | none => simp
    | some b => simp
theorem fuA_some {c : Nat → Nat → Nat} {n g a : Nat} (h : fuA c n g = some a) : a < n ∧ c a 4 = g := by
  obtain ⟨-, h2, h3, -⟩ := fstF_some h
  exact ⟨by omega, by simpa using h3⟩
theorem alk_eq {c : Nat → Nat → Nat} {a b : Nat} (h : alk c a b = true) : c a 0 = c b 0 := by
  unfold alk at h
  simp at h
  exact h.1
theorem m_ord {n ou : Nat} {c : Nat → Nat → Nat} {ws : Nat → Nat} (hv : PV n c ws ou) {j a b : Nat} (hj : j < nif c n) (ha : fuA c n (2 * j + 1) = some a) (hb : fuA c n (2 * j + 2) = some b) : ipl c n j < a ∧ a < b ∧ b < n := by
  obtain ⟨a1, a2⟩ := fuA_some ha
  obtain ⟨b1, b2⟩ := fuA_some hb
  obtain ⟨p1, p2, p3⟩ := ipl_spec hj
  have g := (hv.b a1).2.2.2.2.1
  refine ⟨?_, ?_, b1⟩
  · rcases Nat.lt_or_ge (ipl c n j) a with z | z
    · exact z
    · have := nif_mono (c := c) z
      omega
  · have og := (hv.2.2.2.1 a a1).2.2.2.2.2 (by omega)
    rcases Nat.lt_trichotomy a b with z | z | z
    · exact z
    · rw [z] at a2
      omega
    · exact absurd (by omega) (og b z)
theorem m_nif {c : Nat → Nat → Nat} {p a b : Nat} (h1 : p < a) (h2 : a < b) (ha : c a 0 ≠ 5) (hb : c b 0 ≠ 5) : ∀ k, nif (mC c p a b) k = nif c (mo p a b k) := by
  intro k
  have na : nif c (a + 1) = nif c a := by rw [nif, if_neg ha]; rfl
  have nb : nif c (b + 1) = nif c b := by rw [nif, if_neg hb]; rfl
  induction k with
  | zero => rw [mo, if_pos (Nat.zero_le p)]; rfl
  | succ k ih =>
    rw [nif, ih]
    rcases Nat.lt_trichotomy k p with z | z | z
    · have e1 : mo p a b k = k := by unfold mo; rw [if_pos (by omega)]
      have e2 : mo p a b (k + 1) = k + 1 := by unfold mo; rw [if_pos (by omega)]
      rw [mC_n (by omega), e1, e2, nif]
    · have e1 : mo p a b k = k := by unfold mo; rw [if_pos (by omega)]
      have e2 : mo p a b (k + 1) = k := by unfold mo; rw [if_neg (by omega), if_pos (by omega)]; omega
      rw [e1, e2, z, mC_p (by decide), if_neg ha]
      rfl
    · rw [mC_n (by omega)]
      rcases Nat.lt_trichotomy k a with y | y | y
      · have e1 : mo p a b k = k - 1 := by unfold mo; rw [if_neg (by omega), if_pos (by omega)]
        have e2 : mo p a b (k + 1) = k := by unfold mo; rw [if_neg (by omega), if_pos (by omega)]; omega
        rw [e1, e2]
        obtain ⟨q, rfl⟩ : ∃ q, k = q + 1 := ⟨k - 1, by omega⟩
        rw [Nat.add_sub_cancel, nif]
      · have e1 : mo p a b k = k - 1 := by unfold mo; rw [if_neg (by omega), if_pos (by omega)]
        have e3 : nif c (mo p a b (k + 1)) = nif c k := by
          unfold mo
          rw [if_neg (by omega), if_neg (by omega)]
          by_cases w : k + 1 < b
          · rw [if_pos w, y, na]
          · rw [if_neg w, show k + 1 = b by omega, nb, show b = a + 1 by omega, na, y]
        rw [e1, e3]
        obtain ⟨q, rfl⟩ : ∃ q, k = q + 1 := ⟨k - 1, by omega⟩
        rw [Nat.add_sub_cancel, nif]
      · rcases Nat.lt_or_ge k b with x | x
        · have e1 : mo p a b k = k := by unfold mo; rw [if_neg (by omega), if_neg (by omega), if_pos x]
          have e3 : nif c (mo p a b (k + 1)) = nif c (k + 1) := by
            unfold mo
            rw [if_neg (by omega), if_neg (by omega)]
            by_cases w : k + 1 < b
            · rw [if_pos w]
            · rw [if_neg w, show k + 1 = b by omega, nb]
          rw [e1, e3, nif]
        · have e1 : mo p a b k = k + 1 := by unfold mo; rw [if_neg (by omega), if_neg (by omega), if_neg (by omega)]
          have e2 : mo p a b (k + 1) = k + 1 + 1 := by unfold mo; rw [if_neg (by omega), if_neg (by omega), if_neg (by omega)]
          rw [e1, e2]
          rfl
theorem mo_lt {p a b k n : Nat} (h1 : p < a) (h2 : a < b) (hb : b < n) (hk : k < n - 1) : mo p a b k < n := by
  unfold mo
  split
  · omega
  · split
    · omega
    · split <;> omega
theorem mo_mono {p a b k l : Nat} (h1 : p < a) (h2 : a < b) (h : k < l) : mo p a b k ≤ mo p a b l ∧ (mo p a b k = mo p a b l → k = p) := by
  unfold mo
  split <;> split <;> (try split) <;> (try split) <;> (try split) <;> (try split) <;> omega
theorem m_PV {n ou : Nat} {c : Nat → Nat → Nat} {ws : Nat → Nat} (hv : PV n c ws ou) {p a b : Nat} (h1 : p < a) (h2 : a < b) (h3 : b < n) (ha : c a 0 ≠ 5) (hb : c b 0 ≠ 5) : PV (n - 1) (mC c p a b) ws ou ∧ nif (mC c p a b) (n - 1) = nif c n := by
  have e : nif (mC c p a b) (n - 1) = nif c n := by
    rw [m_nif h1 h2 ha hb]
    congr 1
    unfold mo
    rw [if_neg (by omega), if_neg (by omega), if_neg (by omega)]
    omega
  obtain ⟨v1, v2, v3, v4, v5⟩ := hv
  have g4 : ∀ k, mC c p a b k 4 = c (mo p a b k) 4 := fun k => if_neg (fun y => y.2 rfl)
  refine ⟨⟨by omega, by omega, v3, fun k hk => ?_, fun j hj => v5 j (by omega)⟩, e⟩
  obtain ⟨g1, g2, g3, g5, g6, g7⟩ := v4 (mo p a b k) (mo_lt h1 h2 h3 hk)
  have og : OG (mC c p a b) k := by
    intro o k' hk'
    rw [g4] at o ⊢
    rw [g4]
    have m := mo_mono (k := k') (l := k) h1 h2 hk'
    by_cases z : mo p a b k' = mo p a b k
    · rw [z]; omega
    · exact g7 o _ (by omega)
  rw [m_nif h1 h2 ha hb, g4]
  by_cases z : k = p
  · obtain ⟨q1, q2, q3, q5, -⟩ := v4 a (by omega)
    have w : ∀ w, w ≠ 4 → mC c p a b k w = c a w := fun w hw => if_pos ⟨z, hw⟩
    rw [w 0 (by decide), w 1 (by decide), w 2 (by decide), w 3 (by decide)]
    exact ⟨q1, q2, q3, q5, g6, og⟩
  · have w : ∀ w, mC c p a b k w = c (mo p a b k) w := fun w => if_neg (fun y => z y.1)
    rw [w 0, w 1, w 2, w 3]
    exact ⟨g1, g2, g3, g5, g6, og⟩

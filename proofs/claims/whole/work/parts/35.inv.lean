/-! what holds between the class and the reference, call after call -/
def iT (F A : Nat → Nat → Int32) : Prop := ∃ t : Nat, t ≤ 320 ∧ F 1 3 = nI t ∧ F 56 5 = nI t ∧ ∀ k, k < t → ∃ b : Nat, b ≤ 127 ∧ A 10 k = nI b ∧ A 61 k = nI b
def iP (F A : Nat → Nat → Int32) : Prop := ∃ (n : Nat) (c : Nat → Nat → Nat) (ws : Nat → Nat) (ou : Nat), PV n c ws ou ∧ XP F A 12 n c ws ou ∧ M0 (A 57) n c ws ou
def iI (F A : Nat → Nat → Int32) (k : Nat) : Prop := (A 21 k = nI 0 ∧ A 59 k = nI 0) ∨ (A 21 k = nI 1 ∧ A 59 k = nI 1 ∧ ∃ (n : Nat) (c : Nat → Nat → Nat) (ws : Nat → Nat) (ou : Nat), PV n c ws ou ∧ XP F A (32 + 8 * k) n c ws ou ∧ M0 (fun t => A 58 (128 * k + t)) n c ws ou)
def iR (F A : Nat → Nat → Int32) : Prop := (F 0 8 = nI 0 ∧ F 56 20 = nI 0) ∨ (F 0 8 = nI 1 ∧ F 56 20 = nI 1 ∧ F 27 4 = F 56 21 ∧ ∀ v, v < 8 → A 28 v = A 67 v)
def iS (F A : Nat → Nat → Int32) (k : Nat) : Prop := (F (48 + 2 * k) 2 = (-4) ∧ A 71 k = (-4)) ∨ ∃ ln sz : Nat, ln ≤ 2 ∧ sz ≤ 40 ∧ F (48 + 2 * k) 1 = nI ln ∧ F (48 + 2 * k) 2 = nI sz ∧ A 71 k = nI ln ∧ A 72 k = nI sz ∧ ∀ i, i < 40 → A (49 + 2 * k) i = A 73 (40 * k + i)
def Inv (F A : Nat → Nat → Int32) : Prop := iT F A ∧ iP F A ∧ (iI F A 0 ∧ iI F A 1) ∧ iR F A ∧ (iS F A 0 ∧ iS F A 1 ∧ iS F A 2 ∧ iS F A 3) ∧ F 1 8 = F 56 10 ∧ F 0 9 = F 56 32
section FRAME
variable {F A F' A' : Nat → Nat → Int32}
theorem XP.fr {P n ou : Nat} {c : Nat → Nat → Nat} {ws : Nat → Nat} (h : XP F A P n c ws ou) (hF : F' P = F P) (hA : ∀ d, 1 ≤ d → d ≤ 7 → A' (P + d) = A (P + d)) : XP F' A' P n c ws ou := by
  obtain ⟨h1, h2, h3, h4, h5, h6⟩ := h
  refine ⟨by rw [hF]; exact h1, by rw [hF]; exact h2, by rw [hF]; exact h3, ?_, ?_, ?_⟩
  · rw [hA 1 (by omega) (by omega), hA 2 (by omega) (by omega), hA 3 (by omega) (by omega), hA 4 (by omega) (by omega), hA 5 (by omega) (by omega)]
    exact h4
  · rw [hA 6 (by omega) (by omega)]
    exact h5
  · rw [hA 7 (by omega) (by omega)]
    exact h6
theorem iT.fr (h : iT F A) (h1 : F' 1 3 = F 1 3) (h2 : F' 56 5 = F 56 5) (h3 : A' 10 = A 10) (h4 : A' 61 = A 61) : iT F' A' := by
  unfold iT
  rw [h1, h2, h3, h4]
  exact h
theorem iP.fr (h : iP F A) (h1 : F' 12 = F 12) (h2 : ∀ d, 1 ≤ d → d ≤ 7 → A' (12 + d) = A (12 + d)) (h3 : A' 57 = A 57) : iP F' A' := by
  obtain ⟨n, c, ws, ou, g1, g2, g3⟩ := h
  exact ⟨n, c, ws, ou, g1, g2.fr h1 h2, by rw [h3]; exact g3⟩
theorem iI.fr {k : Nat} (h : iI F A k) (h1 : F' (32 + 8 * k) = F (32 + 8 * k)) (h2 : ∀ d, 1 ≤ d → d ≤ 7 → A' (32 + 8 * k + d) = A (32 + 8 * k + d)) (h3 : A' 21 k = A 21 k) (h4 : A' 59 k = A 59 k) (h5 : ∀ t, t < 128 → A' 58 (128 * k + t) = A 58 (128 * k + t)) : iI F' A' k := by
  unfold iI
  rw [h3, h4]
  rcases h with h | ⟨g1, g2, n, c, ws, ou, g3, g4, g5⟩
  · exact Or.inl h
  · refine Or.inr ⟨g1, g2, n, c, ws, ou, g3, g4.fr h1 h2, ?_⟩
    obtain ⟨m1, m2, m3, m4⟩ := g5
    have := g3.1
    have := g3.2.1
    exact ⟨(h5 _ (by omega)).trans m1, (h5 _ (by omega)).trans m2, fun i hi w hw => (h5 _ (by omega)).trans (m3 i hi w hw), fun j hj => (h5 _ (by omega)).trans (m4 j hj)⟩
theorem iR.fr (h : iR F A) (h1 : F' 0 8 = F 0 8) (h2 : F' 56 20 = F 56 20) (h3 : F' 27 = F 27) (h4 : F' 56 21 = F 56 21) (h5 : A' 28 = A 28) (h6 : A' 67 = A 67) : iR F' A' := by
  unfold iR
  rw [h1, h2, h3, h4, h5, h6]
  exact h
theorem iS.fr {k : Nat} (h : iS F A k) (h1 : F' (48 + 2 * k) = F (48 + 2 * k)) (h2 : A' (49 + 2 * k) = A (49 + 2 * k)) (h3 : A' 71 k = A 71 k) (h4 : A' 72 k = A 72 k) (h5 : ∀ i, i < 40 → A' 73 (40 * k + i) = A 73 (40 * k + i)) : iS F' A' k := by
  unfold iS
  rw [h1, h2, h3, h4]
  rcases h with h | ⟨ln, sz, g1, g2, g3, g4, g5, g6, g7⟩
  · exact Or.inl h
  · exact Or.inr ⟨ln, sz, g1, g2, g3, g4, g5, g6, fun i hi => by rw [h5 i hi]; exact g7 i hi⟩
end FRAME
/-- a call of both: the same answer, and what holds goes on to hold -/
def Iv (Lx : Nat) (xs : Nat → Int32) (σ : dS) : Prop := ∃ (F A : Nat → Nat → Int32) (J : Nat → Nat → Int64), σ = mk Lx F A J ∧ A 75 = xs ∧ Inv F A
def okI (Lx : Nat) (xs : Nat → Int32) (Mx Mm : Nat) (as : List Value) (σ : dS) : Prop := ∃ (r : Int32) (σ1 σ2 : dS), dcall Mx (.ref 0 :: as) σ = some (some (.int r), σ1) ∧ dcall Mm (.ref 56 :: as) σ1 = some (some (.int r), σ2) ∧ Iv Lx xs σ2
def okL (Lx : Nat) (xs : Nat → Int32) (Mx Mm : Nat) (as : List Value) (σ : dS) : Prop := ∃ (r : Int64) (σ1 σ2 : dS), dcall Mx (.ref 0 :: as) σ = some (some (.long r), σ1) ∧ dcall Mm (.ref 56 :: as) σ1 = some (some (.long r), σ2) ∧ Iv Lx xs σ2

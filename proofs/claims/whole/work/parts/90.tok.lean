/-! text: tokens. b the bytes, t how many -/
def spn (b : Nat → Nat) (t lo hi : Nat) : Nat → Nat → Nat
  | 0, p => p
  | k + 1, p => if p < t ∧ lo ≤ b p ∧ b p ≤ hi then spn b t lo hi k (p + 1) else p
def sp (b : Nat → Nat) (t lo hi p : Nat) : Nat := spn b t lo hi (t - p) p
theorem sp_t {b : Nat → Nat} {t lo hi p : Nat} (h : p < t ∧ lo ≤ b p ∧ b p ≤ hi) : sp b t lo hi p = sp b t lo hi (p + 1) := by
  unfold sp
  obtain ⟨k, hk⟩ : ∃ k, t - p = k + 1 := ⟨t - p - 1, by omega⟩
  rw [hk, spn, if_pos h, show t - (p + 1) = k by omega]
theorem sp_f {b : Nat → Nat} {t lo hi p : Nat} (h : ¬ (p < t ∧ lo ≤ b p ∧ b p ≤ hi)) : sp b t lo hi p = p := by
  unfold sp
  cases t - p with
  | zero => rfl
  | succ k => rw [spn, if_neg h]
theorem spn_le (b : Nat → Nat) (t lo hi : Nat) : ∀ k p, p + k ≤ t ∨ k = 0 → p ≤ spn b t lo hi k p ∧ spn b t lo hi k p ≤ p + k := by
  intro k
  induction k with
  | zero => intro p _; rw [spn]; omega
  | succ k ih =>
    intro p h
    rw [spn]
    by_cases z : p < t ∧ lo ≤ b p ∧ b p ≤ hi
    · rw [if_pos z]
      have := ih (p + 1) (by omega)
      omega
    · rw [if_neg z]
      omega
theorem sp_le {b : Nat → Nat} {t lo hi p : Nat} (h : p ≤ t) : p ≤ sp b t lo hi p ∧ sp b t lo hi p ≤ t := by
  have := spn_le b t lo hi (t - p) p (by omega)
  unfold sp
  omega
theorem sp_lt {b : Nat → Nat} {t lo hi p : Nat} (h : p < t ∧ lo ≤ b p ∧ b p ≤ hi) : p < sp b t lo hi p := by
  rw [sp_t h]
  have := (sp_le (b := b) (lo := lo) (hi := hi) (show p + 1 ≤ t by omega)).1
  omega
def tS (b : Nat → Nat) (t p : Nat) : Nat := sp b t 32 32 p
def tE (b : Nat → Nat) (t p : Nat) : Nat := if t ≤ tS b t p then tS b t p else if 97 ≤ b (tS b t p) ∧ b (tS b t p) ≤ 122 then sp b t 97 122 (tS b t p) else if 48 ≤ b (tS b t p) ∧ b (tS b t p) ≤ 57 then sp b t 48 57 (tS b t p) else tS b t p + 1
/-- 0 the end, 1 a name, 2 a number, 59 123 125 signs, 7 none -/
def tK (b : Nat → Nat) (t p : Nat) : Nat := if t ≤ tS b t p then 0 else if 97 ≤ b (tS b t p) ∧ b (tS b t p) ≤ 122 then 1 else if 48 ≤ b (tS b t p) ∧ b (tS b t p) ≤ 57 then (if tE b t p - tS b t p ≤ 2 then 2 else 7) else if b (tS b t p) = 59 ∨ b (tS b t p) = 123 ∨ b (tS b t p) = 125 then b (tS b t p) else 7
theorem t_le {b : Nat → Nat} {t p : Nat} (h : p ≤ t) : p ≤ tS b t p ∧ tS b t p ≤ tE b t p ∧ tE b t p ≤ t ∧ (tK b t p ≠ 0 → tS b t p < tE b t p) := by
  have h1 := sp_le (b := b) (t := t) (lo := 32) (hi := 32) h
  have h2 : p ≤ tS b t p ∧ tS b t p ≤ t := h1
  unfold tE tK
  by_cases z : t ≤ tS b t p
  · rw [if_pos z, if_pos z]
    exact ⟨by omega, by omega, by omega, fun y => absurd rfl y⟩
  · rw [if_neg z]
    by_cases y : 97 ≤ b (tS b t p) ∧ b (tS b t p) ≤ 122
    · rw [if_pos y]
      have a1 := sp_lt (b := b) (t := t) (lo := 97) (hi := 122) (p := tS b t p) ⟨by omega, y.1, y.2⟩
      have a2 := sp_le (b := b) (t := t) (lo := 97) (hi := 122) h2.2
      exact ⟨by omega, by omega, by omega, fun _ => a1⟩
    · rw [if_neg y]
      by_cases x : 48 ≤ b (tS b t p) ∧ b (tS b t p) ≤ 57
      · rw [if_pos x]
        have a1 := sp_lt (b := b) (t := t) (lo := 48) (hi := 57) (p := tS b t p) ⟨by omega, x.1, x.2⟩
        have a2 := sp_le (b := b) (t := t) (lo := 48) (hi := 57) h2.2
        exact ⟨by omega, by omega, by omega, fun _ => a1⟩
      · rw [if_neg x]
        exact ⟨by omega, by omega, by omega, fun _ => by omega⟩
section TOK6
variable {Lx : Nat} {F A : Nat → Nat → Int32} {J : Nat → Nat → Int64} {b : Nat → Nat} {t : Nat}
/-- the class's tape -/
def tpX (F A : Nat → Nat → Int32) (b : Nat → Nat) (t : Nat) : Prop := t ≤ 320 ∧ F 1 3 = nI t ∧ ∀ k, k < t → b k ≤ 127 ∧ A 10 k = nI (b k)
theorem c_span (h : tpX F A b t) {lo hi p : Nat} (hlo : lo ≤ 127) (hhi : hi ≤ 127) (hp : p ≤ t) : dcall mX5_endOfSpan [.ref 1, .int (nI p), .int (nI lo), .int (nI hi)] (mk Lx F A J) = some (some (.int (nI (sp b t lo hi p))), mk Lx F A J) := by
  obtain ⟨ht, h3, h10⟩ := h
  have l : ∀ k q, q + k = t → den mX5_endOfSpan 3 [some (.ref 1), some (.int (nI p)), some (.int (nI lo)), some (.int (nI hi)), some (.int (nI q))] [] (mk Lx F A J) = some (some (.int (nI (sp b t lo hi q))), mk Lx F A J) := by
    intro k
    induction k with
    | zero =>
      intro q hq
      have hlt : ¬ q < t := by omega
      rw [sp_f (by omega), hX5_endOfSpan_3]
      simp (disch := omega) only [SX5_endOfSpan, G1, h3, nI_ltI, hlt, Option.bind_some, Option.bind_none, if_true, if_false, zr0, zr1, one11, one01, one0, one1, Option.toList_some, Option.toList_none, List.cons_append, List.nil_append, Nat.reduceEqDiff, Nat.reduceAdd, not_false_eq_true, not_true_eq_false, and_true, true_and, and_false, false_and, or_true, true_or, or_false, false_or, and_self, or_self, Bool.false_eq_true]
    | succ k ih =>
      intro q hq
      have hlt : q < t := by omega
      obtain ⟨b7, b1⟩ := h10 q hlt
      have e := ih (q + 1) (by omega)
      by_cases z1 : b q < lo
      · rw [sp_f (by omega), hX5_endOfSpan_3]
        simp (disch := omega) only [SX5_endOfSpan, G1, h3, a10, b1, nI_ltI, hlt, z1, Option.bind_some, Option.bind_none, if_true, if_false, zr0, zr1, one11, one01, one0, one1, Option.toList_some, Option.toList_none, List.cons_append, List.nil_append, Nat.reduceEqDiff, Nat.reduceAdd, not_false_eq_true, not_true_eq_false, and_true, true_and, and_false, false_and, or_true, true_or, or_false, false_or, and_self, or_self, Bool.false_eq_true]
      · by_cases z2 : hi < b q
        · rw [sp_f (by omega), hX5_endOfSpan_3]
          simp (disch := omega) only [SX5_endOfSpan, G1, h3, a10, b1, nI_ltI, hlt, z1, z2, Option.bind_some, Option.bind_none, if_true, if_false, zr0, zr1, one11, one01, one0, one1, Option.toList_some, Option.toList_none, List.cons_append, List.nil_append, Nat.reduceEqDiff, Nat.reduceAdd, not_false_eq_true, not_true_eq_false, and_true, true_and, and_false, false_and, or_true, true_or, or_false, false_or, and_self, or_self, Bool.false_eq_true]
        · rw [sp_t ⟨hlt, by omega, by omega⟩, hX5_endOfSpan_3]
          simp (disch := omega) only [SX5_endOfSpan, G1, h3, a10, b1, nI_ltI, hlt, z1, z2, nI_add, e, Option.bind_some, Option.bind_none, if_true, if_false, zr0, zr1, one11, one01, one0, one1, Option.toList_some, Option.toList_none, List.cons_append, List.nil_append, Nat.reduceEqDiff, Nat.reduceAdd, not_false_eq_true, not_true_eq_false, and_true, true_and, and_false, false_and, or_true, true_or, or_false, false_or, and_self, or_self, Bool.false_eq_true]
  have e := l (t - p) p (by omega)
  simp (disch := omega) only [CX5_endOfSpan, SX5_endOfSpan, e, Option.bind_some, Option.bind_none, if_true, if_false, zr0, zr1, one11, one01, one0, one1, Option.toList_some, Option.toList_none, List.cons_append, List.nil_append, Nat.reduceEqDiff, Nat.reduceAdd, not_false_eq_true, not_true_eq_false, and_true, true_and, and_false, false_and, or_true, true_or, or_false, false_or, and_self, or_self, Bool.false_eq_true]
theorem c_refuse (e : Int32) : dcall mX5_refuse [.ref 1, .int e] (mk Lx F A J) = some (some (.int (nI 0)), mk Lx (up F 1 (up (up (F 1) 8 e) 9 (F 1 6))) A J) := by
  simp (disch := omega) only [CX5_refuse, SX5_refuse, G1, P1, up_eq, up_ne, up_up, Option.bind_some, Option.bind_none, if_true, if_false, zr0, zr1, one11, one01, one0, one1, Option.toList_some, Option.toList_none, List.cons_append, List.nil_append, Nat.reduceEqDiff, Nat.reduceAdd, not_false_eq_true, not_true_eq_false, and_true, true_and, and_false, false_and, or_true, true_or, or_false, false_or, and_self, or_self, Bool.false_eq_true]
/-- what reading a token leaves -/
def tkd (F : Nat → Nat → Int32) (f : Nat → Int32) (b : Nat → Nat) (t p : Nat) : Prop := f 3 = F 1 3 ∧ f 4 = F 1 4 ∧ f 6 = nI (tS b t p) ∧ f 7 = nI (tE b t p) ∧ (tK b t p ≠ 7 → f 5 = nI (tK b t p) ∧ f 8 = F 1 8) ∧ (tK b t p = 7 → f 8 = nI 1 ∧ f 9 = nI (tS b t p))
theorem c_readToken (h : tpX F A b t) {p : Nat} (hp : p ≤ t) (h7 : F 1 7 = nI p) : ∃ f, dcall mX5_readToken [.ref 1] (mk Lx F A J) = some (some (.int (if tK b t p = 7 then nI 0 else nI 1)), mk Lx (up F 1 f) A J) ∧ tkd F f b t p := by
  have ht := h.1
  have h3 := h.2.1
  have hl := t_le (b := b) hp
  have s1 := c_span (Lx := Lx) (J := J) h (lo := 32) (hi := 32) (by decide) (by decide) hp
  have s1' : dcall mX5_endOfSpan [.ref 1, .int (nI p), .int (nI 32), .int (nI 32)] (mk Lx F A J) = some (some (.int (nI (tS b t p))), mk Lx F A J) := s1
  have hX : ∀ f : Nat → Int32, f 3 = F 1 3 → tpX (up F 1 f) A b t := fun f hf => ⟨ht, by rw [up_eq, hf]; exact h3, h.2.2⟩
  by_cases z : t ≤ tS b t p
  · have hk : tK b t p = 0 := by unfold tK; rw [if_pos z]
    have he : tE b t p = tS b t p := by unfold tE; rw [if_pos z]
    have hlt : ¬ tS b t p < t := by omega
    refine ⟨up (up (up (F 1) 7 (nI (tS b t p))) 6 (nI (tS b t p))) 5 (nI 0), ?_, ?_⟩
    · rw [if_neg (by omega)]
      simp (disch := omega) only [CX5_readToken, SX5_readToken_0, SX5_readToken_1, SX5_readToken_2, G1, O1, P1, h7, s1', h3, up_eq, up_ne, up_up, nI_ltI, hlt, Option.bind_some, Option.bind_none, if_true, if_false, zr0, zr1, one11, one01, one0, one1, Option.toList_some, Option.toList_none, List.cons_append, List.nil_append, Nat.reduceEqDiff, Nat.reduceAdd, not_false_eq_true, not_true_eq_false, and_true, true_and, and_false, false_and, or_true, true_or, or_false, false_or, and_self, or_self, Bool.false_eq_true]
    · unfold tkd
      simp (disch := omega) only [up_eq, up_ne, he, hk]
      exact ⟨trivial, trivial, trivial, trivial, fun _ => ⟨trivial, trivial⟩, fun y => absurd y (by decide)⟩
  · have hs : tS b t p < t := by omega
    obtain ⟨b7, b1⟩ := h.2.2 _ hs
    by_cases y : 97 ≤ b (tS b t p) ∧ b (tS b t p) ≤ 122
    · have hk : tK b t p = 1 := by unfold tK; rw [if_neg z, if_pos y]
      have he : tE b t p = sp b t 97 122 (tS b t p) := by unfold tE; rw [if_neg z, if_pos y]
      have y1 : ¬ b (tS b t p) < 97 := by omega
      have y2 : ¬ 122 < b (tS b t p) := by omega
      have s2 := c_span (Lx := Lx) (J := J) (hX (up (up (up (F 1) 7 (nI (tS b t p))) 6 (nI (tS b t p))) 5 (nI 1)) (by simp (disch := omega) only [up_ne])) (lo := 97) (hi := 122) (p := tS b t p) (by decide) (by decide) (by omega)
      rw [← he] at s2
      refine ⟨up (up (up (up (F 1) 7 (nI (tS b t p))) 6 (nI (tS b t p))) 5 (nI 1)) 7 (nI (tE b t p)), ?_, ?_⟩
      · rw [if_neg (by omega)]
        simp (config := {maxSteps := 400000}) (disch := omega) only [CX5_readToken, SX5_readToken_0, SX5_readToken_1, SX5_readToken_2, G1, O1, P1, h7, s1', h3, up_eq, up_ne, up_up, nI_ltI, hs, a10, b1, y1, y2, s2, Option.bind_some, Option.bind_none, if_true, if_false, zr0, zr1, one11, one01, one0, one1, Option.toList_some, Option.toList_none, List.cons_append, List.nil_append, Nat.reduceEqDiff, Nat.reduceAdd, not_false_eq_true, not_true_eq_false, and_true, true_and, and_false, false_and, or_true, true_or, or_false, false_or, and_self, or_self, Bool.false_eq_true]
      · unfold tkd
        simp (disch := omega) only [up_eq, up_ne, hk]
        exact ⟨trivial, trivial, trivial, trivial, fun _ => ⟨trivial, trivial⟩, fun y => absurd y (by decide)⟩
    · have hy : b (tS b t p) < 97 ∨ (¬ b (tS b t p) < 97 ∧ 122 < b (tS b t p)) := by omega
      by_cases x : 48 ≤ b (tS b t p) ∧ b (tS b t p) ≤ 57
      · have he : tE b t p = sp b t 48 57 (tS b t p) := by unfold tE; rw [if_neg z, if_neg y, if_pos x]
        have y0 : b (tS b t p) < 97 := by omega
        have x1 : ¬ b (tS b t p) < 48 := by omega
        have x2 : ¬ 57 < b (tS b t p) := by omega
        have s2 := c_span (Lx := Lx) (J := J) (hX (up (up (up (F 1) 7 (nI (tS b t p))) 6 (nI (tS b t p))) 5 (nI 2)) (by simp (disch := omega) only [up_ne])) (lo := 48) (hi := 57) (p := tS b t p) (by decide) (by decide) (by omega)
        rw [← he] at s2
        by_cases w : tE b t p - tS b t p ≤ 2
        · have hk : tK b t p = 2 := by unfold tK; rw [if_neg z, if_neg y, if_pos x, if_pos w]
          have w1 : ¬ 2 < tE b t p - tS b t p := by omega
          refine ⟨up (up (up (up (F 1) 7 (nI (tS b t p))) 6 (nI (tS b t p))) 5 (nI 2)) 7 (nI (tE b t p)), ?_, ?_⟩
          · rw [if_neg (by omega)]
            simp (config := {maxSteps := 400000}) (disch := omega) only [CX5_readToken, SX5_readToken_0, SX5_readToken_1, SX5_readToken_2, G1, O1, P1, h7, s1', h3, up_eq, up_ne, up_up, nI_ltI, hs, a10, b1, y0, x1, x2, s2, nI_s, w1, Option.bind_some, Option.bind_none, if_true, if_false, zr0, zr1, one11, one01, one0, one1, Option.toList_some, Option.toList_none, List.cons_append, List.nil_append, Nat.reduceEqDiff, Nat.reduceAdd, not_false_eq_true, not_true_eq_false, and_true, true_and, and_false, false_and, or_true, true_or, or_false, false_or, and_self, or_self, Bool.false_eq_true]
          · unfold tkd
            simp (disch := omega) only [up_eq, up_ne, hk]
            exact ⟨trivial, trivial, trivial, trivial, fun _ => ⟨trivial, trivial⟩, fun y => absurd y (by decide)⟩
        · have hk : tK b t p = 7 := by unfold tK; rw [if_neg z, if_neg y, if_pos x, if_neg w]
          have w1 : 2 < tE b t p - tS b t p := by omega
          refine ⟨up (up (up (up (up (up (F 1) 7 (nI (tS b t p))) 6 (nI (tS b t p))) 5 (nI 2)) 7 (nI (tE b t p))) 8 (nI 1)) 9 (nI (tS b t p)), ?_, ?_⟩
          · rw [if_pos hk]
            simp (disch := omega) only [CX5_readToken, SX5_readToken_0, SX5_readToken_1, SX5_readToken_2, G1, O1, P1, h7, s1', h3, up_eq, up_ne, up_up, nI_ltI, hs, a10, b1, y0, x1, x2, s2, nI_s, w1, c_refuse, Option.bind_some, Option.bind_none, if_true, if_false, zr0, zr1, one11, one01, one0, one1, Option.toList_some, Option.toList_none, List.cons_append, List.nil_append, Nat.reduceEqDiff, Nat.reduceAdd, not_false_eq_true, not_true_eq_false, and_true, true_and, and_false, false_and, or_true, true_or, or_false, false_or, and_self, or_self, Bool.false_eq_true]
          · unfold tkd
            simp (disch := omega) only [up_eq, up_ne, hk]
            exact ⟨trivial, trivial, trivial, trivial, fun y => absurd rfl y, fun _ => ⟨trivial, trivial⟩⟩
      · have he : tE b t p = tS b t p + 1 := by unfold tE; rw [if_neg z, if_neg y, if_neg x]
        have hx : b (tS b t p) < 48 ∨ (¬ b (tS b t p) < 48 ∧ 57 < b (tS b t p)) := by omega
        have go : ∀ X : Option (Option Value × dS), den mX5_readToken 147 [some (.ref 1), some (.int (nI (b (tS b t p))))] [] (mk Lx (up F 1 (up (up (F 1) 7 (nI (tS b t p))) 6 (nI (tS b t p)))) A J) = X → dcall mX5_readToken [.ref 1] (mk Lx F A J) = X := fun X hX => by
          rcases hy with y1 | ⟨y1, y2⟩ <;> rcases hx with x1 | ⟨x1, x2⟩
          · simp (disch := omega) only [SX5_readToken_0, SX5_readToken_1, SX5_readToken_2, G1, O1, P1, up_eq, up_ne, up_up, nI_ltI, nI_eq, nI_add, c_refuse, Option.bind_some, Option.bind_none, if_true, if_false, zr0, zr1, one11, one01, one0, one1, Option.toList_some, Option.toList_none, List.cons_append, List.nil_append, Nat.reduceEqDiff, Nat.reduceAdd, not_false_eq_true, not_true_eq_false, and_true, true_and, and_false, false_and, or_true, true_or, or_false, false_or, and_self, or_self, Bool.false_eq_true] at hX
            simp (disch := omega) only [CX5_readToken, SX5_readToken_0, SX5_readToken_1, SX5_readToken_2, G1, O1, P1, h7, s1', h3, up_eq, up_ne, up_up, nI_ltI, nI_eq, nI_add, hs, a10, b1, y1, x1, c_refuse, Option.bind_some, Option.bind_none, if_true, if_false, zr0, zr1, one11, one01, one0, one1, Option.toList_some, Option.toList_none, List.cons_append, List.nil_append, Nat.reduceEqDiff, Nat.reduceAdd, not_false_eq_true, not_true_eq_false, and_true, true_and, and_false, false_and, or_true, true_or, or_false, false_or, and_self, or_self, Bool.false_eq_true]
            exact hX
          · simp (disch := omega) only [SX5_readToken_0, SX5_readToken_1, SX5_readToken_2, G1, O1, P1, up_eq, up_ne, up_up, nI_ltI, nI_eq, nI_add, c_refuse, Option.bind_some, Option.bind_none, if_true, if_false, zr0, zr1, one11, one01, one0, one1, Option.toList_some, Option.toList_none, List.cons_append, List.nil_append, Nat.reduceEqDiff, Nat.reduceAdd, not_false_eq_true, not_true_eq_false, and_true, true_and, and_false, false_and, or_true, true_or, or_false, false_or, and_self, or_self, Bool.false_eq_true] at hX
            simp (disch := omega) only [CX5_readToken, SX5_readToken_0, SX5_readToken_1, SX5_readToken_2, G1, O1, P1, h7, s1', h3, up_eq, up_ne, up_up, nI_ltI, nI_eq, nI_add, hs, a10, b1, y1, x1, x2, c_refuse, Option.bind_some, Option.bind_none, if_true, if_false, zr0, zr1, one11, one01, one0, one1, Option.toList_some, Option.toList_none, List.cons_append, List.nil_append, Nat.reduceEqDiff, Nat.reduceAdd, not_false_eq_true, not_true_eq_false, and_true, true_and, and_false, false_and, or_true, true_or, or_false, false_or, and_self, or_self, Bool.false_eq_true]
            exact hX
          · omega
          · simp (disch := omega) only [SX5_readToken_0, SX5_readToken_1, SX5_readToken_2, G1, O1, P1, up_eq, up_ne, up_up, nI_ltI, nI_eq, nI_add, c_refuse, Option.bind_some, Option.bind_none, if_true, if_false, zr0, zr1, one11, one01, one0, one1, Option.toList_some, Option.toList_none, List.cons_append, List.nil_append, Nat.reduceEqDiff, Nat.reduceAdd, not_false_eq_true, not_true_eq_false, and_true, true_and, and_false, false_and, or_true, true_or, or_false, false_or, and_self, or_self, Bool.false_eq_true] at hX
            simp (disch := omega) only [CX5_readToken, SX5_readToken_0, SX5_readToken_1, SX5_readToken_2, G1, O1, P1, h7, s1', h3, up_eq, up_ne, up_up, nI_ltI, nI_eq, nI_add, hs, a10, b1, y1, y2, x1, x2, c_refuse, Option.bind_some, Option.bind_none, if_true, if_false, zr0, zr1, one11, one01, one0, one1, Option.toList_some, Option.toList_none, List.cons_append, List.nil_append, Nat.reduceEqDiff, Nat.reduceAdd, not_false_eq_true, not_true_eq_false, and_true, true_and, and_false, false_and, or_true, true_or, or_false, false_or, and_self, or_self, Bool.false_eq_true]
            exact hX
        by_cases w : b (tS b t p) = 59 ∨ b (tS b t p) = 123 ∨ b (tS b t p) = 125
        · have hk : tK b t p = b (tS b t p) := by unfold tK; rw [if_neg z, if_neg y, if_neg x, if_pos w]
          refine ⟨up (up (up (up (F 1) 7 (nI (tS b t p))) 6 (nI (tS b t p))) 5 (nI (b (tS b t p)))) 7 (nI (tE b t p)), ?_, ?_⟩
          · rw [if_neg (by omega)]
            apply go
            rw [he]
            rcases w with w | w | w <;> rw [w] <;> simp (disch := omega) only [SX5_readToken_0, SX5_readToken_1, SX5_readToken_2, G1, O1, P1, up_eq, up_ne, up_up, nI_eq, nI_add, eq_self_iff_true, Option.bind_some, Option.bind_none, if_true, if_false, zr0, zr1, one11, one01, one0, one1, Option.toList_some, Option.toList_none, List.cons_append, List.nil_append, Nat.reduceEqDiff, Nat.reduceAdd, not_false_eq_true, not_true_eq_false, and_true, true_and, and_false, false_and, or_true, true_or, or_false, false_or, and_self, or_self, Bool.false_eq_true]
          · unfold tkd
            simp (disch := omega) only [up_eq, up_ne, hk]
            exact ⟨trivial, trivial, trivial, trivial, fun _ => ⟨trivial, trivial⟩, fun y => absurd y (by omega)⟩
        · have hk : tK b t p = 7 := by unfold tK; rw [if_neg z, if_neg y, if_neg x, if_neg w]
          have w1 : ¬ b (tS b t p) = 59 := fun e => w (Or.inl e)
          have w2 : ¬ b (tS b t p) = 123 := fun e => w (Or.inr (Or.inl e))
          have w3 : ¬ b (tS b t p) = 125 := fun e => w (Or.inr (Or.inr e))
          refine ⟨up (up (up (up (up (up (F 1) 7 (nI (tS b t p))) 6 (nI (tS b t p))) 5 (nI (b (tS b t p)))) 7 (nI (tE b t p))) 8 (nI 1)) 9 (nI (tS b t p)), ?_, ?_⟩
          · rw [if_pos hk]
            apply go
            rw [he]
            simp (disch := omega) only [SX5_readToken_0, SX5_readToken_1, SX5_readToken_2, G1, O1, P1, up_eq, up_ne, up_up, nI_eq, nI_add, w1, w2, w3, c_refuse, Option.bind_some, Option.bind_none, if_true, if_false, zr0, zr1, one11, one01, one0, one1, Option.toList_some, Option.toList_none, List.cons_append, List.nil_append, Nat.reduceEqDiff, Nat.reduceAdd, not_false_eq_true, not_true_eq_false, and_true, true_and, and_false, false_and, or_true, true_or, or_false, false_or, and_self, or_self, Bool.false_eq_true]
          · unfold tkd
            simp (disch := omega) only [up_eq, up_ne, hk]
            exact ⟨trivial, trivial, trivial, trivial, fun y => absurd rfl y, fun _ => ⟨trivial, trivial⟩⟩
end TOK6

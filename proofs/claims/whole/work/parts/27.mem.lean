/-! THE MEMORY: a picture is mk Lx F A J: F the int fields (place, field), A the rows of ints, bytes, booleans (place, index), J the rows of longs; the references are the same for ever -/
def up {α : Type} (f : Nat → α) (k : Nat) (v : α) : Nat → α := fun j => if j = k then v else f j
theorem up_eq {α : Type} (f : Nat → α) (k : Nat) (v : α) : up f k v k = v := if_pos rfl
theorem up_ne {α : Type} (f : Nat → α) {k j : Nat} (v : α) (h : j ≠ k) : up f k v j = f j := if_neg h
theorem up_up {α : Type} (f : Nat → α) (k : Nat) (v w : α) : up (up f k v) k w = up f k w := by
  funext j
  by_cases h : j = k
  · rw [h, up_eq, up_eq]
  · rw [up_ne _ _ h, up_ne _ _ h, up_ne _ _ h]
theorem up_id {α : Type} (f : Nat → α) (k : Nat) : up f k (f k) = f := by
  funext j
  by_cases h : j = k
  · rw [h, up_eq]
  · rw [up_ne _ _ h]
theorem up_swap {α : Type} (f : Nat → α) {k l : Nat} (v w : α) (h : k ≠ l) : up (up f k v) l w = up (up f l w) k v := by
  funext j
  by_cases h1 : j = l
  · subst h1; rw [up_eq, up_ne _ _ (Ne.symm h), up_eq]
  · by_cases h2 : j = k
    · subst h2; rw [up_ne _ _ h1, up_eq, up_eq]
    · rw [up_ne _ _ h1, up_ne _ _ h2, up_ne _ _ h2, up_ne _ _ h1]
def dcells (Lx : Nat) (f a : Nat → Int32) (l : Nat → Int64) : List dE := [
  .inr (5, [.ref 1, .ref 12, .ref 20, .ref 21, .ref 22, .ref 27, .ref 29, .ref 31, .int (f 8), .int (f 9)]),
  .inr (4, [.ref 2, .ref 10, .ref 11, .int (f 3), .int (f 4), .int (f 5), .int (f 6), .int (f 7), .int (f 8), .int (f 9)]),
  .inr (2, [.ref 3, .ref 4, .ref 5, .ref 6, .ref 7, .ref 8, .ref 9, .int (f 7), .int (f 8), .int (f 9)]),
  .inl (0, 24, .inl a),
  .inl (0, 24, .inl a),
  .inl (0, 24, .inl a),
  .inl (0, 24, .inl a),
  .inl (0, 24, .inl a),
  .inl (0, 6, .inl a),
  .inl (0, 6, .inl a),
  .inl (1, 320, .inl a),
  .inl (0, 6, .inl a),
  .inr (2, [.ref 13, .ref 14, .ref 15, .ref 16, .ref 17, .ref 18, .ref 19, .int (f 7), .int (f 8), .int (f 9)]),
  .inl (0, 24, .inl a),
  .inl (0, 24, .inl a),
  .inl (0, 24, .inl a),
  .inl (0, 24, .inl a),
  .inl (0, 24, .inl a),
  .inl (0, 6, .inl a),
  .inl (0, 6, .inl a),
  .inl (4, 2, .inr (.inr (.inr (.inr (fun j => [32, 40][j]?))))),
  .inl (2, 2, .inl a),
  .inr (0, [.ref 23, .ref 24, .ref 25, .ref 26]),
  .inl (0, 24, .inl a),
  .inl (0, 13, .inl a),
  .inl (3, 13, .inr (.inl l)),
  .inl (2, 6, .inl a),
  .inr (1, [.ref 28, .int (f 1), .int (f 2), .int (f 3), .int (f 4), .int (f 5)]),
  .inl (0, 8, .inl a),
  .inr (1, [.ref 30, .int (f 1), .int (f 2), .int (f 3), .int (f 4), .int (f 5)]),
  .inl (0, 8, .inl a),
  .inl (5, 4, .inr (.inr (.inr (.inr (fun j => [48, 50, 52, 54][j]?))))),
  .inr (2, [.ref 33, .ref 34, .ref 35, .ref 36, .ref 37, .ref 38, .ref 39, .int (f 7), .int (f 8), .int (f 9)]),
  .inl (0, 24, .inl a),
  .inl (0, 24, .inl a),
  .inl (0, 24, .inl a),
  .inl (0, 24, .inl a),
  .inl (0, 24, .inl a),
  .inl (0, 6, .inl a),
  .inl (0, 6, .inl a),
  .inr (2, [.ref 41, .ref 42, .ref 43, .ref 44, .ref 45, .ref 46, .ref 47, .int (f 7), .int (f 8), .int (f 9)]),
  .inl (0, 24, .inl a),
  .inl (0, 24, .inl a),
  .inl (0, 24, .inl a),
  .inl (0, 24, .inl a),
  .inl (0, 24, .inl a),
  .inl (0, 6, .inl a),
  .inl (0, 6, .inl a),
  .inr (3, [.ref 49, .int (f 1), .int (f 2)]),
  .inl (0, 40, .inl a),
  .inr (3, [.ref 51, .int (f 1), .int (f 2)]),
  .inl (0, 40, .inl a),
  .inr (3, [.ref 53, .int (f 1), .int (f 2)]),
  .inl (0, 40, .inl a),
  .inr (3, [.ref 55, .int (f 1), .int (f 2)]),
  .inl (0, 40, .inl a),
  .inr (6, [.ref 57, .ref 58, .ref 59, .ref 60, .ref 61, .int (f 5), .int (f 6), .int (f 7), .int (f 8), .int (f 9), .int (f 10), .int (f 11), .ref 62, .int (f 13), .int (f 14), .ref 63, .ref 64, .ref 65, .ref 66, .ref 67, .int (f 20), .int (f 21), .ref 68, .ref 69, .int (f 24), .int (f 25), .int (f 26), .int (f 27), .ref 70, .ref 71, .ref 72, .ref 73, .int (f 32), .ref 74]),
  .inl (0, 128, .inl a),
  .inl (0, 256, .inl a),
  .inl (2, 2, .inl a),
  .inl (0, 128, .inl a),
  .inl (0, 320, .inl a),
  .inl (0, 7, .inl a),
  .inl (2, 6, .inl a),
  .inl (3, 6, .inr (.inl l)),
  .inl (2, 6, .inl a),
  .inl (0, 8, .inl a),
  .inl (0, 8, .inl a),
  .inl (2, 13, .inl a),
  .inl (2, 6, .inl a),
  .inl (2, 24, .inl a),
  .inl (0, 4, .inl a),
  .inl (0, 4, .inl a),
  .inl (0, 160, .inl a),
  .inl (0, 128, .inl a),
  .inl (0, Lx, .inl a)]
def dcell (Lx q : Nat) (f a : Nat → Int32) (l : Nat → Int64) : dE := (dcells Lx f a l).getD q (.inr (99, []))
def mk (Lx : Nat) (F A : Nat → Nat → Int32) (J : Nat → Nat → Int64) : dS := fun q => dcell Lx q (F q) (A q) (J q)
section MEM
variable {Lx : Nat} {F A : Nat → Nat → Int32} {J : Nat → Nat → Int64}
theorem mkF {q : Nat} {f : Nat → Int32} {e : dE} (h : dcell Lx q f (A q) (J q) = e) : dup1 (mk Lx F A J) q e = mk Lx (up F q f) A J := by
  funext j
  unfold dup1 mk
  by_cases hj : j = q
  · rw [if_pos hj, hj, up_eq, h]
  · rw [if_neg hj, up_ne _ _ hj]
theorem mkA {q : Nat} {a : Nat → Int32} {e : dE} (h : dcell Lx q (F q) a (J q) = e) : dup1 (mk Lx F A J) q e = mk Lx F (up A q a) J := by
  funext j
  unfold dup1 mk
  by_cases hj : j = q
  · rw [if_pos hj, hj, up_eq, h]
  · rw [if_neg hj, up_ne _ _ hj]
theorem mkJ {q : Nat} {a : Nat → Int64} {e : dE} (h : dcell Lx q (F q) (A q) a = e) : dup1 (mk Lx F A J) q e = mk Lx F A (up J q a) := by
  funext j
  unfold dup1 mk
  by_cases hj : j = q
  · rw [if_pos hj, hj, up_eq, h]
  · rw [if_neg hj, up_ne _ _ hj]
theorem dix_nI {j n : Nat} (h : j < n) (hn : n < 2 ^ 31) : dix (nI j) n = some j := by
  unfold dix
  rw [if_neg (nI_in h hn), nI_clamp (by omega)]
theorem upd_up (f : Nat → Int32) (k : Nat) (v : Int32) : upd f k v = up f k v := rfl
theorem updL_up (f : Nat → Int64) (k : Nat) (v : Int64) : vp_updL f k v = up f k v := rfl
/-- reads and writes of a row by what its cell is -/
theorem m_ald {q t n j : Nat} (hq : ∀ f a l, dcell Lx q f a l = .inl (t, n, .inl a)) (h : j < n) (hn : n < 2 ^ 31) : dald (mk Lx F A J) q t (nI j) = some (A q j) := by
  unfold dald dai mk
  rw [hq]
  simp only [if_true, Option.bind_some, dix_nI h hn]
theorem m_ast {q t n j : Nat} {x : Int32} (hN : q < dN) (hq : ∀ f a l, dcell Lx q f a l = .inl (t, n, .inl a)) (h : j < n) (hn : n < 2 ^ 31) : dast (mk Lx F A J) q t (nI j) x = some (mk Lx F (up A q (up (A q) j x)) J) := by
  have e : mk Lx F A J q = .inl (t, n, .inl (A q)) := hq _ _ _
  unfold dast dai
  rw [if_pos hN, e]
  simp only [if_true, Option.bind_some, dix_nI h hn]
  rw [mkA (hq _ _ _)]
  rfl
theorem m_lld {q n j : Nat} (hN : q < dN) (hq : ∀ f a l, dcell Lx q f a l = .inl (3, n, .inr (.inl l))) (h : j < n) (hn : n < 2 ^ 31) : dlld (mk Lx F A J) q (nI j) = some (J q j) := by
  have e : mk Lx F A J q = .inl (3, n, .inr (.inl (J q))) := hq _ _ _
  unfold dlld dal
  rw [if_pos hN, e]
  simp only [if_true, Option.bind_some, dix_nI h hn]
theorem m_lst {q n j : Nat} {x : Int64} (hN : q < dN) (hq : ∀ f a l, dcell Lx q f a l = .inl (3, n, .inr (.inl l))) (h : j < n) (hn : n < 2 ^ 31) : dlst (mk Lx F A J) q (nI j) x = some (mk Lx F A (up J q (up (J q) j x))) := by
  have e : mk Lx F A J q = .inl (3, n, .inr (.inl (J q))) := hq _ _ _
  unfold dlst dal
  rw [if_pos hN, e]
  simp only [if_true, Option.bind_some, dix_nI h hn]
  rw [mkJ (hq _ _ _)]
  rfl
theorem m_bldB {q n j : Nat} (hN : q < dN) (hq : ∀ f a l, dcell Lx q f a l = .inl (1, n, .inl a)) (h : j < n) (hn : n < 2 ^ 31) : dbld (mk Lx F A J) q (nI j) = some (A q j) := by
  have e : mk Lx F A J q = .inl (1, n, .inl (A q)) := hq _ _ _
  unfold dbld dtag
  rw [if_pos hN, e]
  exact m_ald hq h hn
theorem m_bldZ {q n j : Nat} (hN : q < dN) (hq : ∀ f a l, dcell Lx q f a l = .inl (2, n, .inl a)) (h : j < n) (hn : n < 2 ^ 31) : dbld (mk Lx F A J) q (nI j) = some (A q j) := by
  have e : mk Lx F A J q = .inl (2, n, .inl (A q)) := hq _ _ _
  unfold dbld dtag
  rw [if_pos hN, e]
  exact m_ald hq h hn
theorem m_bstB {q n j : Nat} {x : Int32} (hN : q < dN) (hq : ∀ f a l, dcell Lx q f a l = .inl (1, n, .inl a)) (h : j < n) (hn : n < 2 ^ 31) : dbst (mk Lx F A J) q (nI j) x = some (mk Lx F (up A q (up (A q) j (vp_nar .byte x))) J) := by
  have e : mk Lx F A J q = .inl (1, n, .inl (A q)) := hq _ _ _
  unfold dbst dtag
  rw [e]
  exact m_ast hN hq h hn
theorem m_bstZ {q n j : Nat} {x : Int32} (hN : q < dN) (hq : ∀ f a l, dcell Lx q f a l = .inl (2, n, .inl a)) (h : j < n) (hn : n < 2 ^ 31) : dbst (mk Lx F A J) q (nI j) x = some (mk Lx F (up A q (up (A q) j (vp_nar .boolean x))) J) := by
  have e : mk Lx F A J q = .inl (2, n, .inl (A q)) := hq _ _ _
  unfold dbst dtag
  rw [e]
  exact m_ast hN hq h hn
theorem m_put {q c k : Nat} {v : Int32} {fs : (Nat → Int32) → List Value} (hN : q < dN) (hq : ∀ f a l, dcell Lx q f a l = .inr (c, fs f)) (hk : k < (fs (F q)).length) (hs : ∀ f, (fs f).set k (.int v) = fs (up f k v)) : dput (mk Lx F A J) q c k (.int v) = some (mk Lx (up F q (up (F q) k v)) A J) := by
  have e : mk Lx F A J q = .inr (c, fs (F q)) := hq _ _ _
  unfold dput
  rw [if_pos hN, e]
  dsimp only
  rw [if_pos ⟨rfl, hk⟩, hs, mkF (hq _ _ _)]
theorem m_copy {q0 q1 n0 n1 n : Nat} (h0 : q0 < dN) (h1 : q1 < dN) (hq0 : ∀ f a l, dcell Lx q0 f a l = .inl (0, n0, .inl a)) (hq1 : ∀ f a l, dcell Lx q1 f a l = .inl (0, n1, .inl a)) (hn0 : n ≤ n0) (hn1 : n ≤ n1) (hn : n < 2 ^ 31) : dcopy (mk Lx F A J) q0 (nI 0) q1 (nI 0) (nI n) = some (mk Lx F (up A q1 (fun j => if j < n then A q0 j else A q1 j)) J) := by
  have e0 : mk Lx F A J q0 = .inl (0, n0, .inl (A q0)) := hq0 _ _ _
  have e1 : mk Lx F A J q1 = .inl (0, n1, .inl (A q1)) := hq1 _ _ _
  unfold dcopy dai
  rw [if_pos ⟨h0, h1⟩, e0, e1]
  simp only [if_true, Option.bind_some]
  have z0 : (nI 0).toNatClampNeg = 0 := nI_clamp (by decide)
  rw [z0, nI_clamp hn, if_neg (by
    rintro ((h | h | h) | h | h)
    · exact nI_pos (by decide) h
    · exact nI_pos (by decide) h
    · exact nI_pos hn h
    · omega
    · omega)]
  have e2 : va_cpy (A q0) (A q1) 0 0 n = fun j => if j < n then A q0 j else A q1 j := by
    funext j
    simp [va_cpy]
  rw [mkA (hq1 _ _ _), e2]
end MEM
section MEMQ
variable {Lx : Nat} {F A : Nat → Nat → Int32} {J : Nat → Nat → Int64}
theorem G0 : (∀ (F A : Nat → Nat → Int32) (J : Nat → Nat → Int64), dget (mk Lx F A J) 0 5 0 = some (.ref 1)) ∧ (∀ (F A : Nat → Nat → Int32) (J : Nat → Nat → Int64), dget (mk Lx F A J) 0 5 1 = some (.ref 12)) ∧ (∀ (F A : Nat → Nat → Int32) (J : Nat → Nat → Int64), dget (mk Lx F A J) 0 5 2 = some (.ref 20)) ∧ (∀ (F A : Nat → Nat → Int32) (J : Nat → Nat → Int64), dget (mk Lx F A J) 0 5 3 = some (.ref 21)) ∧ (∀ (F A : Nat → Nat → Int32) (J : Nat → Nat → Int64), dget (mk Lx F A J) 0 5 4 = some (.ref 22)) ∧ (∀ (F A : Nat → Nat → Int32) (J : Nat → Nat → Int64), dget (mk Lx F A J) 0 5 5 = some (.ref 27)) ∧ (∀ (F A : Nat → Nat → Int32) (J : Nat → Nat → Int64), dget (mk Lx F A J) 0 5 6 = some (.ref 29)) ∧ (∀ (F A : Nat → Nat → Int32) (J : Nat → Nat → Int64), dget (mk Lx F A J) 0 5 7 = some (.ref 31)) ∧ (∀ (F A : Nat → Nat → Int32) (J : Nat → Nat → Int64), dget (mk Lx F A J) 0 5 8 = some (.int (F 0 8))) ∧ (∀ (F A : Nat → Nat → Int32) (J : Nat → Nat → Int64), dget (mk Lx F A J) 0 5 9 = some (.int (F 0 9))) := ⟨fun _ _ _ => rfl, fun _ _ _ => rfl, fun _ _ _ => rfl, fun _ _ _ => rfl, fun _ _ _ => rfl, fun _ _ _ => rfl, fun _ _ _ => rfl, fun _ _ _ => rfl, fun _ _ _ => rfl, fun _ _ _ => rfl⟩
theorem O0 : disO (mk Lx F A J) 0 5 = true := rfl
theorem P0 : (∀ (F A : Nat → Nat → Int32) (J : Nat → Nat → Int64) (v : Int32), dput (mk Lx F A J) 0 5 8 (.int v) = some (mk Lx (up F 0 (up (F 0) 8 v)) A J)) ∧ (∀ (F A : Nat → Nat → Int32) (J : Nat → Nat → Int64) (v : Int32), dput (mk Lx F A J) 0 5 9 (.int v) = some (mk Lx (up F 0 (up (F 0) 9 v)) A J)) := ⟨fun F A J v => m_put (fs := fun f => [.ref 1, .ref 12, .ref 20, .ref 21, .ref 22, .ref 27, .ref 29, .ref 31, .int (f 8), .int (f 9)]) (by decide) (fun _ _ _ => rfl) (Nat.le_of_ble_eq_true rfl) (fun _ => rfl), fun F A J v => m_put (fs := fun f => [.ref 1, .ref 12, .ref 20, .ref 21, .ref 22, .ref 27, .ref 29, .ref 31, .int (f 8), .int (f 9)]) (by decide) (fun _ _ _ => rfl) (Nat.le_of_ble_eq_true rfl) (fun _ => rfl)⟩
theorem G1 : (∀ (F A : Nat → Nat → Int32) (J : Nat → Nat → Int64), dget (mk Lx F A J) 1 4 0 = some (.ref 2)) ∧ (∀ (F A : Nat → Nat → Int32) (J : Nat → Nat → Int64), dget (mk Lx F A J) 1 4 1 = some (.ref 10)) ∧ (∀ (F A : Nat → Nat → Int32) (J : Nat → Nat → Int64), dget (mk Lx F A J) 1 4 2 = some (.ref 11)) ∧ (∀ (F A : Nat → Nat → Int32) (J : Nat → Nat → Int64), dget (mk Lx F A J) 1 4 3 = some (.int (F 1 3))) ∧ (∀ (F A : Nat → Nat → Int32) (J : Nat → Nat → Int64), dget (mk Lx F A J) 1 4 4 = some (.int (F 1 4))) ∧ (∀ (F A : Nat → Nat → Int32) (J : Nat → Nat → Int64), dget (mk Lx F A J) 1 4 5 = some (.int (F 1 5))) ∧ (∀ (F A : Nat → Nat → Int32) (J : Nat → Nat → Int64), dget (mk Lx F A J) 1 4 6 = some (.int (F 1 6))) ∧ (∀ (F A : Nat → Nat → Int32) (J : Nat → Nat → Int64), dget (mk Lx F A J) 1 4 7 = some (.int (F 1 7))) ∧ (∀ (F A : Nat → Nat → Int32) (J : Nat → Nat → Int64), dget (mk Lx F A J) 1 4 8 = some (.int (F 1 8))) ∧ (∀ (F A : Nat → Nat → Int32) (J : Nat → Nat → Int64), dget (mk Lx F A J) 1 4 9 = some (.int (F 1 9))) := ⟨fun _ _ _ => rfl, fun _ _ _ => rfl, fun _ _ _ => rfl, fun _ _ _ => rfl, fun _ _ _ => rfl, fun _ _ _ => rfl, fun _ _ _ => rfl, fun _ _ _ => rfl, fun _ _ _ => rfl, fun _ _ _ => rfl⟩
theorem O1 : disO (mk Lx F A J) 1 4 = true := rfl
theorem P1 : (∀ (F A : Nat → Nat → Int32) (J : Nat → Nat → Int64) (v : Int32), dput (mk Lx F A J) 1 4 3 (.int v) = some (mk Lx (up F 1 (up (F 1) 3 v)) A J)) ∧ (∀ (F A : Nat → Nat → Int32) (J : Nat → Nat → Int64) (v : Int32), dput (mk Lx F A J) 1 4 4 (.int v) = some (mk Lx (up F 1 (up (F 1) 4 v)) A J)) ∧ (∀ (F A : Nat → Nat → Int32) (J : Nat → Nat → Int64) (v : Int32), dput (mk Lx F A J) 1 4 5 (.int v) = some (mk Lx (up F 1 (up (F 1) 5 v)) A J)) ∧ (∀ (F A : Nat → Nat → Int32) (J : Nat → Nat → Int64) (v : Int32), dput (mk Lx F A J) 1 4 6 (.int v) = some (mk Lx (up F 1 (up (F 1) 6 v)) A J)) ∧ (∀ (F A : Nat → Nat → Int32) (J : Nat → Nat → Int64) (v : Int32), dput (mk Lx F A J) 1 4 7 (.int v) = some (mk Lx (up F 1 (up (F 1) 7 v)) A J)) ∧ (∀ (F A : Nat → Nat → Int32) (J : Nat → Nat → Int64) (v : Int32), dput (mk Lx F A J) 1 4 8 (.int v) = some (mk Lx (up F 1 (up (F 1) 8 v)) A J)) ∧ (∀ (F A : Nat → Nat → Int32) (J : Nat → Nat → Int64) (v : Int32), dput (mk Lx F A J) 1 4 9 (.int v) = some (mk Lx (up F 1 (up (F 1) 9 v)) A J)) := ⟨fun F A J v => m_put (fs := fun f => [.ref 2, .ref 10, .ref 11, .int (f 3), .int (f 4), .int (f 5), .int (f 6), .int (f 7), .int (f 8), .int (f 9)]) (by decide) (fun _ _ _ => rfl) (Nat.le_of_ble_eq_true rfl) (fun _ => rfl), fun F A J v => m_put (fs := fun f => [.ref 2, .ref 10, .ref 11, .int (f 3), .int (f 4), .int (f 5), .int (f 6), .int (f 7), .int (f 8), .int (f 9)]) (by decide) (fun _ _ _ => rfl) (Nat.le_of_ble_eq_true rfl) (fun _ => rfl), fun F A J v => m_put (fs := fun f => [.ref 2, .ref 10, .ref 11, .int (f 3), .int (f 4), .int (f 5), .int (f 6), .int (f 7), .int (f 8), .int (f 9)]) (by decide) (fun _ _ _ => rfl) (Nat.le_of_ble_eq_true rfl) (fun _ => rfl), fun F A J v => m_put (fs := fun f => [.ref 2, .ref 10, .ref 11, .int (f 3), .int (f 4), .int (f 5), .int (f 6), .int (f 7), .int (f 8), .int (f 9)]) (by decide) (fun _ _ _ => rfl) (Nat.le_of_ble_eq_true rfl) (fun _ => rfl), fun F A J v => m_put (fs := fun f => [.ref 2, .ref 10, .ref 11, .int (f 3), .int (f 4), .int (f 5), .int (f 6), .int (f 7), .int (f 8), .int (f 9)]) (by decide) (fun _ _ _ => rfl) (Nat.le_of_ble_eq_true rfl) (fun _ => rfl), fun F A J v => m_put (fs := fun f => [.ref 2, .ref 10, .ref 11, .int (f 3), .int (f 4), .int (f 5), .int (f 6), .int (f 7), .int (f 8), .int (f 9)]) (by decide) (fun _ _ _ => rfl) (Nat.le_of_ble_eq_true rfl) (fun _ => rfl), fun F A J v => m_put (fs := fun f => [.ref 2, .ref 10, .ref 11, .int (f 3), .int (f 4), .int (f 5), .int (f 6), .int (f 7), .int (f 8), .int (f 9)]) (by decide) (fun _ _ _ => rfl) (Nat.le_of_ble_eq_true rfl) (fun _ => rfl)⟩
theorem G22 : (∀ (F A : Nat → Nat → Int32) (J : Nat → Nat → Int64), dget (mk Lx F A J) 22 0 0 = some (.ref 23)) ∧ (∀ (F A : Nat → Nat → Int32) (J : Nat → Nat → Int64), dget (mk Lx F A J) 22 0 1 = some (.ref 24)) ∧ (∀ (F A : Nat → Nat → Int32) (J : Nat → Nat → Int64), dget (mk Lx F A J) 22 0 2 = some (.ref 25)) ∧ (∀ (F A : Nat → Nat → Int32) (J : Nat → Nat → Int64), dget (mk Lx F A J) 22 0 3 = some (.ref 26)) := ⟨fun _ _ _ => rfl, fun _ _ _ => rfl, fun _ _ _ => rfl, fun _ _ _ => rfl⟩
theorem O22 : disO (mk Lx F A J) 22 0 = true := rfl
theorem G56 : (∀ (F A : Nat → Nat → Int32) (J : Nat → Nat → Int64), dget (mk Lx F A J) 56 6 0 = some (.ref 57)) ∧ (∀ (F A : Nat → Nat → Int32) (J : Nat → Nat → Int64), dget (mk Lx F A J) 56 6 1 = some (.ref 58)) ∧ (∀ (F A : Nat → Nat → Int32) (J : Nat → Nat → Int64), dget (mk Lx F A J) 56 6 2 = some (.ref 59)) ∧ (∀ (F A : Nat → Nat → Int32) (J : Nat → Nat → Int64), dget (mk Lx F A J) 56 6 3 = some (.ref 60)) ∧ (∀ (F A : Nat → Nat → Int32) (J : Nat → Nat → Int64), dget (mk Lx F A J) 56 6 4 = some (.ref 61)) ∧ (∀ (F A : Nat → Nat → Int32) (J : Nat → Nat → Int64), dget (mk Lx F A J) 56 6 5 = some (.int (F 56 5))) ∧ (∀ (F A : Nat → Nat → Int32) (J : Nat → Nat → Int64), dget (mk Lx F A J) 56 6 6 = some (.int (F 56 6))) ∧ (∀ (F A : Nat → Nat → Int32) (J : Nat → Nat → Int64), dget (mk Lx F A J) 56 6 7 = some (.int (F 56 7))) ∧ (∀ (F A : Nat → Nat → Int32) (J : Nat → Nat → Int64), dget (mk Lx F A J) 56 6 8 = some (.int (F 56 8))) ∧ (∀ (F A : Nat → Nat → Int32) (J : Nat → Nat → Int64), dget (mk Lx F A J) 56 6 9 = some (.int (F 56 9))) ∧ (∀ (F A : Nat → Nat → Int32) (J : Nat → Nat → Int64), dget (mk Lx F A J) 56 6 10 = some (.int (F 56 10))) ∧ (∀ (F A : Nat → Nat → Int32) (J : Nat → Nat → Int64), dget (mk Lx F A J) 56 6 11 = some (.int (F 56 11))) ∧ (∀ (F A : Nat → Nat → Int32) (J : Nat → Nat → Int64), dget (mk Lx F A J) 56 6 12 = some (.ref 62)) ∧ (∀ (F A : Nat → Nat → Int32) (J : Nat → Nat → Int64), dget (mk Lx F A J) 56 6 13 = some (.int (F 56 13))) ∧ (∀ (F A : Nat → Nat → Int32) (J : Nat → Nat → Int64), dget (mk Lx F A J) 56 6 14 = some (.int (F 56 14))) ∧ (∀ (F A : Nat → Nat → Int32) (J : Nat → Nat → Int64), dget (mk Lx F A J) 56 6 15 = some (.ref 63)) ∧ (∀ (F A : Nat → Nat → Int32) (J : Nat → Nat → Int64), dget (mk Lx F A J) 56 6 16 = some (.ref 64)) ∧ (∀ (F A : Nat → Nat → Int32) (J : Nat → Nat → Int64), dget (mk Lx F A J) 56 6 17 = some (.ref 65)) ∧ (∀ (F A : Nat → Nat → Int32) (J : Nat → Nat → Int64), dget (mk Lx F A J) 56 6 18 = some (.ref 66)) ∧ (∀ (F A : Nat → Nat → Int32) (J : Nat → Nat → Int64), dget (mk Lx F A J) 56 6 19 = some (.ref 67)) ∧ (∀ (F A : Nat → Nat → Int32) (J : Nat → Nat → Int64), dget (mk Lx F A J) 56 6 20 = some (.int (F 56 20))) ∧ (∀ (F A : Nat → Nat → Int32) (J : Nat → Nat → Int64), dget (mk Lx F A J) 56 6 21 = some (.int (F 56 21))) ∧ (∀ (F A : Nat → Nat → Int32) (J : Nat → Nat → Int64), dget (mk Lx F A J) 56 6 22 = some (.ref 68)) ∧ (∀ (F A : Nat → Nat → Int32) (J : Nat → Nat → Int64), dget (mk Lx F A J) 56 6 23 = some (.ref 69)) ∧ (∀ (F A : Nat → Nat → Int32) (J : Nat → Nat → Int64), dget (mk Lx F A J) 56 6 24 = some (.int (F 56 24))) ∧ (∀ (F A : Nat → Nat → Int32) (J : Nat → Nat → Int64), dget (mk Lx F A J) 56 6 25 = some (.int (F 56 25))) ∧ (∀ (F A : Nat → Nat → Int32) (J : Nat → Nat → Int64), dget (mk Lx F A J) 56 6 26 = some (.int (F 56 26))) ∧ (∀ (F A : Nat → Nat → Int32) (J : Nat → Nat → Int64), dget (mk Lx F A J) 56 6 27 = some (.int (F 56 27))) ∧ (∀ (F A : Nat → Nat → Int32) (J : Nat → Nat → Int64), dget (mk Lx F A J) 56 6 28 = some (.ref 70)) ∧ (∀ (F A : Nat → Nat → Int32) (J : Nat → Nat → Int64), dget (mk Lx F A J) 56 6 29 = some (.ref 71)) ∧ (∀ (F A : Nat → Nat → Int32) (J : Nat → Nat → Int64), dget (mk Lx F A J) 56 6 30 = some (.ref 72)) ∧ (∀ (F A : Nat → Nat → Int32) (J : Nat → Nat → Int64), dget (mk Lx F A J) 56 6 31 = some (.ref 73)) ∧ (∀ (F A : Nat → Nat → Int32) (J : Nat → Nat → Int64), dget (mk Lx F A J) 56 6 32 = some (.int (F 56 32))) ∧ (∀ (F A : Nat → Nat → Int32) (J : Nat → Nat → Int64), dget (mk Lx F A J) 56 6 33 = some (.ref 74)) := ⟨fun _ _ _ => rfl, fun _ _ _ => rfl, fun _ _ _ => rfl, fun _ _ _ => rfl, fun _ _ _ => rfl, fun _ _ _ => rfl, fun _ _ _ => rfl, fun _ _ _ => rfl, fun _ _ _ => rfl, fun _ _ _ => rfl, fun _ _ _ => rfl, fun _ _ _ => rfl, fun _ _ _ => rfl, fun _ _ _ => rfl, fun _ _ _ => rfl, fun _ _ _ => rfl, fun _ _ _ => rfl, fun _ _ _ => rfl, fun _ _ _ => rfl, fun _ _ _ => rfl, fun _ _ _ => rfl, fun _ _ _ => rfl, fun _ _ _ => rfl, fun _ _ _ => rfl, fun _ _ _ => rfl, fun _ _ _ => rfl, fun _ _ _ => rfl, fun _ _ _ => rfl, fun _ _ _ => rfl, fun _ _ _ => rfl, fun _ _ _ => rfl, fun _ _ _ => rfl, fun _ _ _ => rfl, fun _ _ _ => rfl⟩
theorem O56 : disO (mk Lx F A J) 56 6 = true := rfl
theorem P56 : (∀ (F A : Nat → Nat → Int32) (J : Nat → Nat → Int64) (v : Int32), dput (mk Lx F A J) 56 6 5 (.int v) = some (mk Lx (up F 56 (up (F 56) 5 v)) A J)) ∧ (∀ (F A : Nat → Nat → Int32) (J : Nat → Nat → Int64) (v : Int32), dput (mk Lx F A J) 56 6 6 (.int v) = some (mk Lx (up F 56 (up (F 56) 6 v)) A J)) ∧ (∀ (F A : Nat → Nat → Int32) (J : Nat → Nat → Int64) (v : Int32), dput (mk Lx F A J) 56 6 7 (.int v) = some (mk Lx (up F 56 (up (F 56) 7 v)) A J)) ∧ (∀ (F A : Nat → Nat → Int32) (J : Nat → Nat → Int64) (v : Int32), dput (mk Lx F A J) 56 6 8 (.int v) = some (mk Lx (up F 56 (up (F 56) 8 v)) A J)) ∧ (∀ (F A : Nat → Nat → Int32) (J : Nat → Nat → Int64) (v : Int32), dput (mk Lx F A J) 56 6 9 (.int v) = some (mk Lx (up F 56 (up (F 56) 9 v)) A J)) ∧ (∀ (F A : Nat → Nat → Int32) (J : Nat → Nat → Int64) (v : Int32), dput (mk Lx F A J) 56 6 10 (.int v) = some (mk Lx (up F 56 (up (F 56) 10 v)) A J)) ∧ (∀ (F A : Nat → Nat → Int32) (J : Nat → Nat → Int64) (v : Int32), dput (mk Lx F A J) 56 6 11 (.int v) = some (mk Lx (up F 56 (up (F 56) 11 v)) A J)) ∧ (∀ (F A : Nat → Nat → Int32) (J : Nat → Nat → Int64) (v : Int32), dput (mk Lx F A J) 56 6 13 (.int v) = some (mk Lx (up F 56 (up (F 56) 13 v)) A J)) ∧ (∀ (F A : Nat → Nat → Int32) (J : Nat → Nat → Int64) (v : Int32), dput (mk Lx F A J) 56 6 14 (.int v) = some (mk Lx (up F 56 (up (F 56) 14 v)) A J)) ∧ (∀ (F A : Nat → Nat → Int32) (J : Nat → Nat → Int64) (v : Int32), dput (mk Lx F A J) 56 6 20 (.int v) = some (mk Lx (up F 56 (up (F 56) 20 v)) A J)) ∧ (∀ (F A : Nat → Nat → Int32) (J : Nat → Nat → Int64) (v : Int32), dput (mk Lx F A J) 56 6 21 (.int v) = some (mk Lx (up F 56 (up (F 56) 21 v)) A J)) ∧ (∀ (F A : Nat → Nat → Int32) (J : Nat → Nat → Int64) (v : Int32), dput (mk Lx F A J) 56 6 24 (.int v) = some (mk Lx (up F 56 (up (F 56) 24 v)) A J)) ∧ (∀ (F A : Nat → Nat → Int32) (J : Nat → Nat → Int64) (v : Int32), dput (mk Lx F A J) 56 6 25 (.int v) = some (mk Lx (up F 56 (up (F 56) 25 v)) A J)) ∧ (∀ (F A : Nat → Nat → Int32) (J : Nat → Nat → Int64) (v : Int32), dput (mk Lx F A J) 56 6 26 (.int v) = some (mk Lx (up F 56 (up (F 56) 26 v)) A J)) ∧ (∀ (F A : Nat → Nat → Int32) (J : Nat → Nat → Int64) (v : Int32), dput (mk Lx F A J) 56 6 27 (.int v) = some (mk Lx (up F 56 (up (F 56) 27 v)) A J)) ∧ (∀ (F A : Nat → Nat → Int32) (J : Nat → Nat → Int64) (v : Int32), dput (mk Lx F A J) 56 6 32 (.int v) = some (mk Lx (up F 56 (up (F 56) 32 v)) A J)) := ⟨fun F A J v => m_put (fs := fun f => [.ref 57, .ref 58, .ref 59, .ref 60, .ref 61, .int (f 5), .int (f 6), .int (f 7), .int (f 8), .int (f 9), .int (f 10), .int (f 11), .ref 62, .int (f 13), .int (f 14), .ref 63, .ref 64, .ref 65, .ref 66, .ref 67, .int (f 20), .int (f 21), .ref 68, .ref 69, .int (f 24), .int (f 25), .int (f 26), .int (f 27), .ref 70, .ref 71, .ref 72, .ref 73, .int (f 32), .ref 74]) (by decide) (fun _ _ _ => rfl) (Nat.le_of_ble_eq_true rfl) (fun _ => rfl), fun F A J v => m_put (fs := fun f => [.ref 57, .ref 58, .ref 59, .ref 60, .ref 61, .int (f 5), .int (f 6), .int (f 7), .int (f 8), .int (f 9), .int (f 10), .int (f 11), .ref 62, .int (f 13), .int (f 14), .ref 63, .ref 64, .ref 65, .ref 66, .ref 67, .int (f 20), .int (f 21), .ref 68, .ref 69, .int (f 24), .int (f 25), .int (f 26), .int (f 27), .ref 70, .ref 71, .ref 72, .ref 73, .int (f 32), .ref 74]) (by decide) (fun _ _ _ => rfl) (Nat.le_of_ble_eq_true rfl) (fun _ => rfl), fun F A J v => m_put (fs := fun f => [.ref 57, .ref 58, .ref 59, .ref 60, .ref 61, .int (f 5), .int (f 6), .int (f 7), .int (f 8), .int (f 9), .int (f 10), .int (f 11), .ref 62, .int (f 13), .int (f 14), .ref 63, .ref 64, .ref 65, .ref 66, .ref 67, .int (f 20), .int (f 21), .ref 68, .ref 69, .int (f 24), .int (f 25), .int (f 26), .int (f 27), .ref 70, .ref 71, .ref 72, .ref 73, .int (f 32), .ref 74]) (by decide) (fun _ _ _ => rfl) (Nat.le_of_ble_eq_true rfl) (fun _ => rfl), fun F A J v => m_put (fs := fun f => [.ref 57, .ref 58, .ref 59, .ref 60, .ref 61, .int (f 5), .int (f 6), .int (f 7), .int (f 8), .int (f 9), .int (f 10), .int (f 11), .ref 62, .int (f 13), .int (f 14), .ref 63, .ref 64, .ref 65, .ref 66, .ref 67, .int (f 20), .int (f 21), .ref 68, .ref 69, .int (f 24), .int (f 25), .int (f 26), .int (f 27), .ref 70, .ref 71, .ref 72, .ref 73, .int (f 32), .ref 74]) (by decide) (fun _ _ _ => rfl) (Nat.le_of_ble_eq_true rfl) (fun _ => rfl), fun F A J v => m_put (fs := fun f => [.ref 57, .ref 58, .ref 59, .ref 60, .ref 61, .int (f 5), .int (f 6), .int (f 7), .int (f 8), .int (f 9), .int (f 10), .int (f 11), .ref 62, .int (f 13), .int (f 14), .ref 63, .ref 64, .ref 65, .ref 66, .ref 67, .int (f 20), .int (f 21), .ref 68, .ref 69, .int (f 24), .int (f 25), .int (f 26), .int (f 27), .ref 70, .ref 71, .ref 72, .ref 73, .int (f 32), .ref 74]) (by decide) (fun _ _ _ => rfl) (Nat.le_of_ble_eq_true rfl) (fun _ => rfl), fun F A J v => m_put (fs := fun f => [.ref 57, .ref 58, .ref 59, .ref 60, .ref 61, .int (f 5), .int (f 6), .int (f 7), .int (f 8), .int (f 9), .int (f 10), .int (f 11), .ref 62, .int (f 13), .int (f 14), .ref 63, .ref 64, .ref 65, .ref 66, .ref 67, .int (f 20), .int (f 21), .ref 68, .ref 69, .int (f 24), .int (f 25), .int (f 26), .int (f 27), .ref 70, .ref 71, .ref 72, .ref 73, .int (f 32), .ref 74]) (by decide) (fun _ _ _ => rfl) (Nat.le_of_ble_eq_true rfl) (fun _ => rfl), fun F A J v => m_put (fs := fun f => [.ref 57, .ref 58, .ref 59, .ref 60, .ref 61, .int (f 5), .int (f 6), .int (f 7), .int (f 8), .int (f 9), .int (f 10), .int (f 11), .ref 62, .int (f 13), .int (f 14), .ref 63, .ref 64, .ref 65, .ref 66, .ref 67, .int (f 20), .int (f 21), .ref 68, .ref 69, .int (f 24), .int (f 25), .int (f 26), .int (f 27), .ref 70, .ref 71, .ref 72, .ref 73, .int (f 32), .ref 74]) (by decide) (fun _ _ _ => rfl) (Nat.le_of_ble_eq_true rfl) (fun _ => rfl), fun F A J v => m_put (fs := fun f => [.ref 57, .ref 58, .ref 59, .ref 60, .ref 61, .int (f 5), .int (f 6), .int (f 7), .int (f 8), .int (f 9), .int (f 10), .int (f 11), .ref 62, .int (f 13), .int (f 14), .ref 63, .ref 64, .ref 65, .ref 66, .ref 67, .int (f 20), .int (f 21), .ref 68, .ref 69, .int (f 24), .int (f 25), .int (f 26), .int (f 27), .ref 70, .ref 71, .ref 72, .ref 73, .int (f 32), .ref 74]) (by decide) (fun _ _ _ => rfl) (Nat.le_of_ble_eq_true rfl) (fun _ => rfl), fun F A J v => m_put (fs := fun f => [.ref 57, .ref 58, .ref 59, .ref 60, .ref 61, .int (f 5), .int (f 6), .int (f 7), .int (f 8), .int (f 9), .int (f 10), .int (f 11), .ref 62, .int (f 13), .int (f 14), .ref 63, .ref 64, .ref 65, .ref 66, .ref 67, .int (f 20), .int (f 21), .ref 68, .ref 69, .int (f 24), .int (f 25), .int (f 26), .int (f 27), .ref 70, .ref 71, .ref 72, .ref 73, .int (f 32), .ref 74]) (by decide) (fun _ _ _ => rfl) (Nat.le_of_ble_eq_true rfl) (fun _ => rfl), fun F A J v => m_put (fs := fun f => [.ref 57, .ref 58, .ref 59, .ref 60, .ref 61, .int (f 5), .int (f 6), .int (f 7), .int (f 8), .int (f 9), .int (f 10), .int (f 11), .ref 62, .int (f 13), .int (f 14), .ref 63, .ref 64, .ref 65, .ref 66, .ref 67, .int (f 20), .int (f 21), .ref 68, .ref 69, .int (f 24), .int (f 25), .int (f 26), .int (f 27), .ref 70, .ref 71, .ref 72, .ref 73, .int (f 32), .ref 74]) (by decide) (fun _ _ _ => rfl) (Nat.le_of_ble_eq_true rfl) (fun _ => rfl), fun F A J v => m_put (fs := fun f => [.ref 57, .ref 58, .ref 59, .ref 60, .ref 61, .int (f 5), .int (f 6), .int (f 7), .int (f 8), .int (f 9), .int (f 10), .int (f 11), .ref 62, .int (f 13), .int (f 14), .ref 63, .ref 64, .ref 65, .ref 66, .ref 67, .int (f 20), .int (f 21), .ref 68, .ref 69, .int (f 24), .int (f 25), .int (f 26), .int (f 27), .ref 70, .ref 71, .ref 72, .ref 73, .int (f 32), .ref 74]) (by decide) (fun _ _ _ => rfl) (Nat.le_of_ble_eq_true rfl) (fun _ => rfl), fun F A J v => m_put (fs := fun f => [.ref 57, .ref 58, .ref 59, .ref 60, .ref 61, .int (f 5), .int (f 6), .int (f 7), .int (f 8), .int (f 9), .int (f 10), .int (f 11), .ref 62, .int (f 13), .int (f 14), .ref 63, .ref 64, .ref 65, .ref 66, .ref 67, .int (f 20), .int (f 21), .ref 68, .ref 69, .int (f 24), .int (f 25), .int (f 26), .int (f 27), .ref 70, .ref 71, .ref 72, .ref 73, .int (f 32), .ref 74]) (by decide) (fun _ _ _ => rfl) (Nat.le_of_ble_eq_true rfl) (fun _ => rfl), fun F A J v => m_put (fs := fun f => [.ref 57, .ref 58, .ref 59, .ref 60, .ref 61, .int (f 5), .int (f 6), .int (f 7), .int (f 8), .int (f 9), .int (f 10), .int (f 11), .ref 62, .int (f 13), .int (f 14), .ref 63, .ref 64, .ref 65, .ref 66, .ref 67, .int (f 20), .int (f 21), .ref 68, .ref 69, .int (f 24), .int (f 25), .int (f 26), .int (f 27), .ref 70, .ref 71, .ref 72, .ref 73, .int (f 32), .ref 74]) (by decide) (fun _ _ _ => rfl) (Nat.le_of_ble_eq_true rfl) (fun _ => rfl), fun F A J v => m_put (fs := fun f => [.ref 57, .ref 58, .ref 59, .ref 60, .ref 61, .int (f 5), .int (f 6), .int (f 7), .int (f 8), .int (f 9), .int (f 10), .int (f 11), .ref 62, .int (f 13), .int (f 14), .ref 63, .ref 64, .ref 65, .ref 66, .ref 67, .int (f 20), .int (f 21), .ref 68, .ref 69, .int (f 24), .int (f 25), .int (f 26), .int (f 27), .ref 70, .ref 71, .ref 72, .ref 73, .int (f 32), .ref 74]) (by decide) (fun _ _ _ => rfl) (Nat.le_of_ble_eq_true rfl) (fun _ => rfl), fun F A J v => m_put (fs := fun f => [.ref 57, .ref 58, .ref 59, .ref 60, .ref 61, .int (f 5), .int (f 6), .int (f 7), .int (f 8), .int (f 9), .int (f 10), .int (f 11), .ref 62, .int (f 13), .int (f 14), .ref 63, .ref 64, .ref 65, .ref 66, .ref 67, .int (f 20), .int (f 21), .ref 68, .ref 69, .int (f 24), .int (f 25), .int (f 26), .int (f 27), .ref 70, .ref 71, .ref 72, .ref 73, .int (f 32), .ref 74]) (by decide) (fun _ _ _ => rfl) (Nat.le_of_ble_eq_true rfl) (fun _ => rfl), fun F A J v => m_put (fs := fun f => [.ref 57, .ref 58, .ref 59, .ref 60, .ref 61, .int (f 5), .int (f 6), .int (f 7), .int (f 8), .int (f 9), .int (f 10), .int (f 11), .ref 62, .int (f 13), .int (f 14), .ref 63, .ref 64, .ref 65, .ref 66, .ref 67, .int (f 20), .int (f 21), .ref 68, .ref 69, .int (f 24), .int (f 25), .int (f 26), .int (f 27), .ref 70, .ref 71, .ref 72, .ref 73, .int (f 32), .ref 74]) (by decide) (fun _ _ _ => rfl) (Nat.le_of_ble_eq_true rfl) (fun _ => rfl)⟩
def isP (P : Nat) : Prop := P = 2 ∨ P = 12 ∨ P = 32 ∨ P = 40
theorem isP_2 : isP 2 := by unfold isP; omega
theorem isP_12 : isP 12 := by unfold isP; omega
theorem isP_32 : isP 32 := by unfold isP; omega
theorem isP_40 : isP 40 := by unfold isP; omega
theorem Gp {P : Nat} (hP : isP P) : (∀ (F A : Nat → Nat → Int32) (J : Nat → Nat → Int64), dget (mk Lx F A J) P 2 0 = some (.ref (P + 1))) ∧ (∀ (F A : Nat → Nat → Int32) (J : Nat → Nat → Int64), dget (mk Lx F A J) P 2 1 = some (.ref (P + 2))) ∧ (∀ (F A : Nat → Nat → Int32) (J : Nat → Nat → Int64), dget (mk Lx F A J) P 2 2 = some (.ref (P + 3))) ∧ (∀ (F A : Nat → Nat → Int32) (J : Nat → Nat → Int64), dget (mk Lx F A J) P 2 3 = some (.ref (P + 4))) ∧ (∀ (F A : Nat → Nat → Int32) (J : Nat → Nat → Int64), dget (mk Lx F A J) P 2 4 = some (.ref (P + 5))) ∧ (∀ (F A : Nat → Nat → Int32) (J : Nat → Nat → Int64), dget (mk Lx F A J) P 2 5 = some (.ref (P + 6))) ∧ (∀ (F A : Nat → Nat → Int32) (J : Nat → Nat → Int64), dget (mk Lx F A J) P 2 6 = some (.ref (P + 7))) ∧ (∀ (F A : Nat → Nat → Int32) (J : Nat → Nat → Int64), dget (mk Lx F A J) P 2 7 = some (.int (F P 7))) ∧ (∀ (F A : Nat → Nat → Int32) (J : Nat → Nat → Int64), dget (mk Lx F A J) P 2 8 = some (.int (F P 8))) ∧ (∀ (F A : Nat → Nat → Int32) (J : Nat → Nat → Int64), dget (mk Lx F A J) P 2 9 = some (.int (F P 9))) := by
  rcases hP with rfl | rfl | rfl | rfl <;> exact ⟨fun _ _ _ => rfl, fun _ _ _ => rfl, fun _ _ _ => rfl, fun _ _ _ => rfl, fun _ _ _ => rfl, fun _ _ _ => rfl, fun _ _ _ => rfl, fun _ _ _ => rfl, fun _ _ _ => rfl, fun _ _ _ => rfl⟩
theorem Op {P : Nat} (hP : isP P) : disO (mk Lx F A J) P 2 = true := by
  rcases hP with rfl | rfl | rfl | rfl <;> rfl
theorem Pp {P : Nat} (hP : isP P) : (∀ (F A : Nat → Nat → Int32) (J : Nat → Nat → Int64) (v : Int32), dput (mk Lx F A J) P 2 7 (.int v) = some (mk Lx (up F P (up (F P) 7 v)) A J)) ∧ (∀ (F A : Nat → Nat → Int32) (J : Nat → Nat → Int64) (v : Int32), dput (mk Lx F A J) P 2 8 (.int v) = some (mk Lx (up F P (up (F P) 8 v)) A J)) ∧ (∀ (F A : Nat → Nat → Int32) (J : Nat → Nat → Int64) (v : Int32), dput (mk Lx F A J) P 2 9 (.int v) = some (mk Lx (up F P (up (F P) 9 v)) A J)) := by
  rcases hP with rfl | rfl | rfl | rfl
  · exact ⟨fun F A J v => m_put (fs := fun f => [.ref 3, .ref 4, .ref 5, .ref 6, .ref 7, .ref 8, .ref 9, .int (f 7), .int (f 8), .int (f 9)]) (by decide) (fun _ _ _ => rfl) (Nat.le_of_ble_eq_true rfl) (fun _ => rfl), fun F A J v => m_put (fs := fun f => [.ref 3, .ref 4, .ref 5, .ref 6, .ref 7, .ref 8, .ref 9, .int (f 7), .int (f 8), .int (f 9)]) (by decide) (fun _ _ _ => rfl) (Nat.le_of_ble_eq_true rfl) (fun _ => rfl), fun F A J v => m_put (fs := fun f => [.ref 3, .ref 4, .ref 5, .ref 6, .ref 7, .ref 8, .ref 9, .int (f 7), .int (f 8), .int (f 9)]) (by decide) (fun _ _ _ => rfl) (Nat.le_of_ble_eq_true rfl) (fun _ => rfl)⟩
  · exact ⟨fun F A J v => m_put (fs := fun f => [.ref 13, .ref 14, .ref 15, .ref 16, .ref 17, .ref 18, .ref 19, .int (f 7), .int (f 8), .int (f 9)]) (by decide) (fun _ _ _ => rfl) (Nat.le_of_ble_eq_true rfl) (fun _ => rfl), fun F A J v => m_put (fs := fun f => [.ref 13, .ref 14, .ref 15, .ref 16, .ref 17, .ref 18, .ref 19, .int (f 7), .int (f 8), .int (f 9)]) (by decide) (fun _ _ _ => rfl) (Nat.le_of_ble_eq_true rfl) (fun _ => rfl), fun F A J v => m_put (fs := fun f => [.ref 13, .ref 14, .ref 15, .ref 16, .ref 17, .ref 18, .ref 19, .int (f 7), .int (f 8), .int (f 9)]) (by decide) (fun _ _ _ => rfl) (Nat.le_of_ble_eq_true rfl) (fun _ => rfl)⟩
  · exact ⟨fun F A J v => m_put (fs := fun f => [.ref 33, .ref 34, .ref 35, .ref 36, .ref 37, .ref 38, .ref 39, .int (f 7), .int (f 8), .int (f 9)]) (by decide) (fun _ _ _ => rfl) (Nat.le_of_ble_eq_true rfl) (fun _ => rfl), fun F A J v => m_put (fs := fun f => [.ref 33, .ref 34, .ref 35, .ref 36, .ref 37, .ref 38, .ref 39, .int (f 7), .int (f 8), .int (f 9)]) (by decide) (fun _ _ _ => rfl) (Nat.le_of_ble_eq_true rfl) (fun _ => rfl), fun F A J v => m_put (fs := fun f => [.ref 33, .ref 34, .ref 35, .ref 36, .ref 37, .ref 38, .ref 39, .int (f 7), .int (f 8), .int (f 9)]) (by decide) (fun _ _ _ => rfl) (Nat.le_of_ble_eq_true rfl) (fun _ => rfl)⟩
  · exact ⟨fun F A J v => m_put (fs := fun f => [.ref 41, .ref 42, .ref 43, .ref 44, .ref 45, .ref 46, .ref 47, .int (f 7), .int (f 8), .int (f 9)]) (by decide) (fun _ _ _ => rfl) (Nat.le_of_ble_eq_true rfl) (fun _ => rfl), fun F A J v => m_put (fs := fun f => [.ref 41, .ref 42, .ref 43, .ref 44, .ref 45, .ref 46, .ref 47, .int (f 7), .int (f 8), .int (f 9)]) (by decide) (fun _ _ _ => rfl) (Nat.le_of_ble_eq_true rfl) (fun _ => rfl), fun F A J v => m_put (fs := fun f => [.ref 41, .ref 42, .ref 43, .ref 44, .ref 45, .ref 46, .ref 47, .int (f 7), .int (f 8), .int (f 9)]) (by decide) (fun _ _ _ => rfl) (Nat.le_of_ble_eq_true rfl) (fun _ => rfl)⟩
theorem ap1 {P j : Nat} (hP : isP P) (h : j < 24) : dald (mk Lx F A J) (P + 1) 0 (nI j) = some (A (P + 1) j) := by
  rcases hP with rfl | rfl | rfl | rfl <;> exact m_ald (fun _ _ _ => rfl) h (by decide)
theorem wp1 {P j : Nat} {x : Int32} (hP : isP P) (h : j < 24) : dast (mk Lx F A J) (P + 1) 0 (nI j) x = some (mk Lx F (up A (P + 1) (up (A (P + 1)) j x)) J) := by
  rcases hP with rfl | rfl | rfl | rfl <;> exact m_ast (by decide) (fun _ _ _ => rfl) h (by decide)
theorem ap2 {P j : Nat} (hP : isP P) (h : j < 24) : dald (mk Lx F A J) (P + 2) 0 (nI j) = some (A (P + 2) j) := by
  rcases hP with rfl | rfl | rfl | rfl <;> exact m_ald (fun _ _ _ => rfl) h (by decide)
theorem wp2 {P j : Nat} {x : Int32} (hP : isP P) (h : j < 24) : dast (mk Lx F A J) (P + 2) 0 (nI j) x = some (mk Lx F (up A (P + 2) (up (A (P + 2)) j x)) J) := by
  rcases hP with rfl | rfl | rfl | rfl <;> exact m_ast (by decide) (fun _ _ _ => rfl) h (by decide)
theorem ap3 {P j : Nat} (hP : isP P) (h : j < 24) : dald (mk Lx F A J) (P + 3) 0 (nI j) = some (A (P + 3) j) := by
  rcases hP with rfl | rfl | rfl | rfl <;> exact m_ald (fun _ _ _ => rfl) h (by decide)
theorem wp3 {P j : Nat} {x : Int32} (hP : isP P) (h : j < 24) : dast (mk Lx F A J) (P + 3) 0 (nI j) x = some (mk Lx F (up A (P + 3) (up (A (P + 3)) j x)) J) := by
  rcases hP with rfl | rfl | rfl | rfl <;> exact m_ast (by decide) (fun _ _ _ => rfl) h (by decide)
theorem ap4 {P j : Nat} (hP : isP P) (h : j < 24) : dald (mk Lx F A J) (P + 4) 0 (nI j) = some (A (P + 4) j) := by
  rcases hP with rfl | rfl | rfl | rfl <;> exact m_ald (fun _ _ _ => rfl) h (by decide)
theorem wp4 {P j : Nat} {x : Int32} (hP : isP P) (h : j < 24) : dast (mk Lx F A J) (P + 4) 0 (nI j) x = some (mk Lx F (up A (P + 4) (up (A (P + 4)) j x)) J) := by
  rcases hP with rfl | rfl | rfl | rfl <;> exact m_ast (by decide) (fun _ _ _ => rfl) h (by decide)
theorem ap5 {P j : Nat} (hP : isP P) (h : j < 24) : dald (mk Lx F A J) (P + 5) 0 (nI j) = some (A (P + 5) j) := by
  rcases hP with rfl | rfl | rfl | rfl <;> exact m_ald (fun _ _ _ => rfl) h (by decide)
theorem wp5 {P j : Nat} {x : Int32} (hP : isP P) (h : j < 24) : dast (mk Lx F A J) (P + 5) 0 (nI j) x = some (mk Lx F (up A (P + 5) (up (A (P + 5)) j x)) J) := by
  rcases hP with rfl | rfl | rfl | rfl <;> exact m_ast (by decide) (fun _ _ _ => rfl) h (by decide)
theorem ap6 {P j : Nat} (hP : isP P) (h : j < 6) : dald (mk Lx F A J) (P + 6) 0 (nI j) = some (A (P + 6) j) := by
  rcases hP with rfl | rfl | rfl | rfl <;> exact m_ald (fun _ _ _ => rfl) h (by decide)
theorem wp6 {P j : Nat} {x : Int32} (hP : isP P) (h : j < 6) : dast (mk Lx F A J) (P + 6) 0 (nI j) x = some (mk Lx F (up A (P + 6) (up (A (P + 6)) j x)) J) := by
  rcases hP with rfl | rfl | rfl | rfl <;> exact m_ast (by decide) (fun _ _ _ => rfl) h (by decide)
theorem ap7 {P j : Nat} (hP : isP P) (h : j < 6) : dald (mk Lx F A J) (P + 7) 0 (nI j) = some (A (P + 7) j) := by
  rcases hP with rfl | rfl | rfl | rfl <;> exact m_ald (fun _ _ _ => rfl) h (by decide)
theorem wp7 {P j : Nat} {x : Int32} (hP : isP P) (h : j < 6) : dast (mk Lx F A J) (P + 7) 0 (nI j) x = some (mk Lx F (up A (P + 7) (up (A (P + 7)) j x)) J) := by
  rcases hP with rfl | rfl | rfl | rfl <;> exact m_ast (by decide) (fun _ _ _ => rfl) h (by decide)
theorem lep {P : Nat} (hP : isP P) (k : Nat) (h : k ≤ 7) : P + k ≤ dN := by
  rcases hP with rfl | rfl | rfl | rfl <;> (show _ ≤ 75; omega)
def isM (P : Nat) : Prop := P = 27 ∨ P = 29
theorem isM_27 : isM 27 := by unfold isM; omega
theorem isM_29 : isM 29 := by unfold isM; omega
theorem Gm {P : Nat} (hP : isM P) : (∀ (F A : Nat → Nat → Int32) (J : Nat → Nat → Int64), dget (mk Lx F A J) P 1 0 = some (.ref (P + 1))) ∧ (∀ (F A : Nat → Nat → Int32) (J : Nat → Nat → Int64), dget (mk Lx F A J) P 1 1 = some (.int (F P 1))) ∧ (∀ (F A : Nat → Nat → Int32) (J : Nat → Nat → Int64), dget (mk Lx F A J) P 1 2 = some (.int (F P 2))) ∧ (∀ (F A : Nat → Nat → Int32) (J : Nat → Nat → Int64), dget (mk Lx F A J) P 1 3 = some (.int (F P 3))) ∧ (∀ (F A : Nat → Nat → Int32) (J : Nat → Nat → Int64), dget (mk Lx F A J) P 1 4 = some (.int (F P 4))) ∧ (∀ (F A : Nat → Nat → Int32) (J : Nat → Nat → Int64), dget (mk Lx F A J) P 1 5 = some (.int (F P 5))) := by
  rcases hP with rfl | rfl <;> exact ⟨fun _ _ _ => rfl, fun _ _ _ => rfl, fun _ _ _ => rfl, fun _ _ _ => rfl, fun _ _ _ => rfl, fun _ _ _ => rfl⟩
theorem Om {P : Nat} (hP : isM P) : disO (mk Lx F A J) P 1 = true := by
  rcases hP with rfl | rfl <;> rfl
theorem Pm {P : Nat} (hP : isM P) : (∀ (F A : Nat → Nat → Int32) (J : Nat → Nat → Int64) (v : Int32), dput (mk Lx F A J) P 1 1 (.int v) = some (mk Lx (up F P (up (F P) 1 v)) A J)) ∧ (∀ (F A : Nat → Nat → Int32) (J : Nat → Nat → Int64) (v : Int32), dput (mk Lx F A J) P 1 2 (.int v) = some (mk Lx (up F P (up (F P) 2 v)) A J)) ∧ (∀ (F A : Nat → Nat → Int32) (J : Nat → Nat → Int64) (v : Int32), dput (mk Lx F A J) P 1 3 (.int v) = some (mk Lx (up F P (up (F P) 3 v)) A J)) ∧ (∀ (F A : Nat → Nat → Int32) (J : Nat → Nat → Int64) (v : Int32), dput (mk Lx F A J) P 1 4 (.int v) = some (mk Lx (up F P (up (F P) 4 v)) A J)) ∧ (∀ (F A : Nat → Nat → Int32) (J : Nat → Nat → Int64) (v : Int32), dput (mk Lx F A J) P 1 5 (.int v) = some (mk Lx (up F P (up (F P) 5 v)) A J)) := by
  rcases hP with rfl | rfl
  · exact ⟨fun F A J v => m_put (fs := fun f => [.ref 28, .int (f 1), .int (f 2), .int (f 3), .int (f 4), .int (f 5)]) (by decide) (fun _ _ _ => rfl) (Nat.le_of_ble_eq_true rfl) (fun _ => rfl), fun F A J v => m_put (fs := fun f => [.ref 28, .int (f 1), .int (f 2), .int (f 3), .int (f 4), .int (f 5)]) (by decide) (fun _ _ _ => rfl) (Nat.le_of_ble_eq_true rfl) (fun _ => rfl), fun F A J v => m_put (fs := fun f => [.ref 28, .int (f 1), .int (f 2), .int (f 3), .int (f 4), .int (f 5)]) (by decide) (fun _ _ _ => rfl) (Nat.le_of_ble_eq_true rfl) (fun _ => rfl), fun F A J v => m_put (fs := fun f => [.ref 28, .int (f 1), .int (f 2), .int (f 3), .int (f 4), .int (f 5)]) (by decide) (fun _ _ _ => rfl) (Nat.le_of_ble_eq_true rfl) (fun _ => rfl), fun F A J v => m_put (fs := fun f => [.ref 28, .int (f 1), .int (f 2), .int (f 3), .int (f 4), .int (f 5)]) (by decide) (fun _ _ _ => rfl) (Nat.le_of_ble_eq_true rfl) (fun _ => rfl)⟩
  · exact ⟨fun F A J v => m_put (fs := fun f => [.ref 30, .int (f 1), .int (f 2), .int (f 3), .int (f 4), .int (f 5)]) (by decide) (fun _ _ _ => rfl) (Nat.le_of_ble_eq_true rfl) (fun _ => rfl), fun F A J v => m_put (fs := fun f => [.ref 30, .int (f 1), .int (f 2), .int (f 3), .int (f 4), .int (f 5)]) (by decide) (fun _ _ _ => rfl) (Nat.le_of_ble_eq_true rfl) (fun _ => rfl), fun F A J v => m_put (fs := fun f => [.ref 30, .int (f 1), .int (f 2), .int (f 3), .int (f 4), .int (f 5)]) (by decide) (fun _ _ _ => rfl) (Nat.le_of_ble_eq_true rfl) (fun _ => rfl), fun F A J v => m_put (fs := fun f => [.ref 30, .int (f 1), .int (f 2), .int (f 3), .int (f 4), .int (f 5)]) (by decide) (fun _ _ _ => rfl) (Nat.le_of_ble_eq_true rfl) (fun _ => rfl), fun F A J v => m_put (fs := fun f => [.ref 30, .int (f 1), .int (f 2), .int (f 3), .int (f 4), .int (f 5)]) (by decide) (fun _ _ _ => rfl) (Nat.le_of_ble_eq_true rfl) (fun _ => rfl)⟩
theorem am1 {P j : Nat} (hP : isM P) (h : j < 8) : dald (mk Lx F A J) (P + 1) 0 (nI j) = some (A (P + 1) j) := by
  rcases hP with rfl | rfl <;> exact m_ald (fun _ _ _ => rfl) h (by decide)
theorem wm1 {P j : Nat} {x : Int32} (hP : isM P) (h : j < 8) : dast (mk Lx F A J) (P + 1) 0 (nI j) x = some (mk Lx F (up A (P + 1) (up (A (P + 1)) j x)) J) := by
  rcases hP with rfl | rfl <;> exact m_ast (by decide) (fun _ _ _ => rfl) h (by decide)
theorem lem {P : Nat} (hP : isM P) (k : Nat) (h : k ≤ 7) : P + k ≤ dN := by
  rcases hP with rfl | rfl <;> (show _ ≤ 75; omega)
def isS (P : Nat) : Prop := P = 48 ∨ P = 50 ∨ P = 52 ∨ P = 54
theorem isS_48 : isS 48 := by unfold isS; omega
theorem isS_50 : isS 50 := by unfold isS; omega
theorem isS_52 : isS 52 := by unfold isS; omega
theorem isS_54 : isS 54 := by unfold isS; omega
theorem Gs {P : Nat} (hP : isS P) : (∀ (F A : Nat → Nat → Int32) (J : Nat → Nat → Int64), dget (mk Lx F A J) P 3 0 = some (.ref (P + 1))) ∧ (∀ (F A : Nat → Nat → Int32) (J : Nat → Nat → Int64), dget (mk Lx F A J) P 3 1 = some (.int (F P 1))) ∧ (∀ (F A : Nat → Nat → Int32) (J : Nat → Nat → Int64), dget (mk Lx F A J) P 3 2 = some (.int (F P 2))) := by
  rcases hP with rfl | rfl | rfl | rfl <;> exact ⟨fun _ _ _ => rfl, fun _ _ _ => rfl, fun _ _ _ => rfl⟩
theorem Os {P : Nat} (hP : isS P) : disO (mk Lx F A J) P 3 = true := by
  rcases hP with rfl | rfl | rfl | rfl <;> rfl
theorem Ps {P : Nat} (hP : isS P) : (∀ (F A : Nat → Nat → Int32) (J : Nat → Nat → Int64) (v : Int32), dput (mk Lx F A J) P 3 1 (.int v) = some (mk Lx (up F P (up (F P) 1 v)) A J)) ∧ (∀ (F A : Nat → Nat → Int32) (J : Nat → Nat → Int64) (v : Int32), dput (mk Lx F A J) P 3 2 (.int v) = some (mk Lx (up F P (up (F P) 2 v)) A J)) := by
  rcases hP with rfl | rfl | rfl | rfl
  · exact ⟨fun F A J v => m_put (fs := fun f => [.ref 49, .int (f 1), .int (f 2)]) (by decide) (fun _ _ _ => rfl) (Nat.le_of_ble_eq_true rfl) (fun _ => rfl), fun F A J v => m_put (fs := fun f => [.ref 49, .int (f 1), .int (f 2)]) (by decide) (fun _ _ _ => rfl) (Nat.le_of_ble_eq_true rfl) (fun _ => rfl)⟩
  · exact ⟨fun F A J v => m_put (fs := fun f => [.ref 51, .int (f 1), .int (f 2)]) (by decide) (fun _ _ _ => rfl) (Nat.le_of_ble_eq_true rfl) (fun _ => rfl), fun F A J v => m_put (fs := fun f => [.ref 51, .int (f 1), .int (f 2)]) (by decide) (fun _ _ _ => rfl) (Nat.le_of_ble_eq_true rfl) (fun _ => rfl)⟩
  · exact ⟨fun F A J v => m_put (fs := fun f => [.ref 53, .int (f 1), .int (f 2)]) (by decide) (fun _ _ _ => rfl) (Nat.le_of_ble_eq_true rfl) (fun _ => rfl), fun F A J v => m_put (fs := fun f => [.ref 53, .int (f 1), .int (f 2)]) (by decide) (fun _ _ _ => rfl) (Nat.le_of_ble_eq_true rfl) (fun _ => rfl)⟩
  · exact ⟨fun F A J v => m_put (fs := fun f => [.ref 55, .int (f 1), .int (f 2)]) (by decide) (fun _ _ _ => rfl) (Nat.le_of_ble_eq_true rfl) (fun _ => rfl), fun F A J v => m_put (fs := fun f => [.ref 55, .int (f 1), .int (f 2)]) (by decide) (fun _ _ _ => rfl) (Nat.le_of_ble_eq_true rfl) (fun _ => rfl)⟩
theorem as1 {P j : Nat} (hP : isS P) (h : j < 40) : dald (mk Lx F A J) (P + 1) 0 (nI j) = some (A (P + 1) j) := by
  rcases hP with rfl | rfl | rfl | rfl <;> exact m_ald (fun _ _ _ => rfl) h (by decide)
theorem ws1 {P j : Nat} {x : Int32} (hP : isS P) (h : j < 40) : dast (mk Lx F A J) (P + 1) 0 (nI j) x = some (mk Lx F (up A (P + 1) (up (A (P + 1)) j x)) J) := by
  rcases hP with rfl | rfl | rfl | rfl <;> exact m_ast (by decide) (fun _ _ _ => rfl) h (by decide)
theorem les {P : Nat} (hP : isS P) (k : Nat) (h : k ≤ 7) : P + k ≤ dN := by
  rcases hP with rfl | rfl | rfl | rfl <;> (show _ ≤ 75; omega)
theorem a3 {j : Nat} (h : j < 24) : dald (mk Lx F A J) 3 0 (nI j) = some (A 3 j) := m_ald (fun _ _ _ => rfl) h (by decide)
theorem w3 {j : Nat} {x : Int32} (h : j < 24) : dast (mk Lx F A J) 3 0 (nI j) x = some (mk Lx F (up A 3 (up (A 3) j x)) J) := m_ast (by decide) (fun _ _ _ => rfl) h (by decide)
theorem n3 : dalen (mk Lx F A J) 3 = some (nI 24) := rfl
theorem a4 {j : Nat} (h : j < 24) : dald (mk Lx F A J) 4 0 (nI j) = some (A 4 j) := m_ald (fun _ _ _ => rfl) h (by decide)
theorem w4 {j : Nat} {x : Int32} (h : j < 24) : dast (mk Lx F A J) 4 0 (nI j) x = some (mk Lx F (up A 4 (up (A 4) j x)) J) := m_ast (by decide) (fun _ _ _ => rfl) h (by decide)
theorem n4 : dalen (mk Lx F A J) 4 = some (nI 24) := rfl
theorem a5 {j : Nat} (h : j < 24) : dald (mk Lx F A J) 5 0 (nI j) = some (A 5 j) := m_ald (fun _ _ _ => rfl) h (by decide)
theorem w5 {j : Nat} {x : Int32} (h : j < 24) : dast (mk Lx F A J) 5 0 (nI j) x = some (mk Lx F (up A 5 (up (A 5) j x)) J) := m_ast (by decide) (fun _ _ _ => rfl) h (by decide)
theorem n5 : dalen (mk Lx F A J) 5 = some (nI 24) := rfl
theorem a6 {j : Nat} (h : j < 24) : dald (mk Lx F A J) 6 0 (nI j) = some (A 6 j) := m_ald (fun _ _ _ => rfl) h (by decide)
theorem w6 {j : Nat} {x : Int32} (h : j < 24) : dast (mk Lx F A J) 6 0 (nI j) x = some (mk Lx F (up A 6 (up (A 6) j x)) J) := m_ast (by decide) (fun _ _ _ => rfl) h (by decide)
theorem n6 : dalen (mk Lx F A J) 6 = some (nI 24) := rfl
theorem a7 {j : Nat} (h : j < 24) : dald (mk Lx F A J) 7 0 (nI j) = some (A 7 j) := m_ald (fun _ _ _ => rfl) h (by decide)
theorem w7 {j : Nat} {x : Int32} (h : j < 24) : dast (mk Lx F A J) 7 0 (nI j) x = some (mk Lx F (up A 7 (up (A 7) j x)) J) := m_ast (by decide) (fun _ _ _ => rfl) h (by decide)
theorem n7 : dalen (mk Lx F A J) 7 = some (nI 24) := rfl
theorem a8 {j : Nat} (h : j < 6) : dald (mk Lx F A J) 8 0 (nI j) = some (A 8 j) := m_ald (fun _ _ _ => rfl) h (by decide)
theorem w8 {j : Nat} {x : Int32} (h : j < 6) : dast (mk Lx F A J) 8 0 (nI j) x = some (mk Lx F (up A 8 (up (A 8) j x)) J) := m_ast (by decide) (fun _ _ _ => rfl) h (by decide)
theorem n8 : dalen (mk Lx F A J) 8 = some (nI 6) := rfl
theorem a9 {j : Nat} (h : j < 6) : dald (mk Lx F A J) 9 0 (nI j) = some (A 9 j) := m_ald (fun _ _ _ => rfl) h (by decide)
theorem w9 {j : Nat} {x : Int32} (h : j < 6) : dast (mk Lx F A J) 9 0 (nI j) x = some (mk Lx F (up A 9 (up (A 9) j x)) J) := m_ast (by decide) (fun _ _ _ => rfl) h (by decide)
theorem n9 : dalen (mk Lx F A J) 9 = some (nI 6) := rfl
theorem a10 {j : Nat} (h : j < 320) : dbld (mk Lx F A J) 10 (nI j) = some (A 10 j) := m_bldB (by decide) (fun _ _ _ => rfl) h (by decide)
theorem w10 {j : Nat} {x : Int32} (h : j < 320) : dbst (mk Lx F A J) 10 (nI j) x = some (mk Lx F (up A 10 (up (A 10) j (vp_nar .byte x))) J) := m_bstB (by decide) (fun _ _ _ => rfl) h (by decide)
theorem a11 {j : Nat} (h : j < 6) : dald (mk Lx F A J) 11 0 (nI j) = some (A 11 j) := m_ald (fun _ _ _ => rfl) h (by decide)
theorem w11 {j : Nat} {x : Int32} (h : j < 6) : dast (mk Lx F A J) 11 0 (nI j) x = some (mk Lx F (up A 11 (up (A 11) j x)) J) := m_ast (by decide) (fun _ _ _ => rfl) h (by decide)
theorem n11 : dalen (mk Lx F A J) 11 = some (nI 6) := rfl
theorem a13 {j : Nat} (h : j < 24) : dald (mk Lx F A J) 13 0 (nI j) = some (A 13 j) := m_ald (fun _ _ _ => rfl) h (by decide)
theorem w13 {j : Nat} {x : Int32} (h : j < 24) : dast (mk Lx F A J) 13 0 (nI j) x = some (mk Lx F (up A 13 (up (A 13) j x)) J) := m_ast (by decide) (fun _ _ _ => rfl) h (by decide)
theorem n13 : dalen (mk Lx F A J) 13 = some (nI 24) := rfl
theorem a14 {j : Nat} (h : j < 24) : dald (mk Lx F A J) 14 0 (nI j) = some (A 14 j) := m_ald (fun _ _ _ => rfl) h (by decide)
theorem w14 {j : Nat} {x : Int32} (h : j < 24) : dast (mk Lx F A J) 14 0 (nI j) x = some (mk Lx F (up A 14 (up (A 14) j x)) J) := m_ast (by decide) (fun _ _ _ => rfl) h (by decide)
theorem n14 : dalen (mk Lx F A J) 14 = some (nI 24) := rfl
theorem a15 {j : Nat} (h : j < 24) : dald (mk Lx F A J) 15 0 (nI j) = some (A 15 j) := m_ald (fun _ _ _ => rfl) h (by decide)
theorem w15 {j : Nat} {x : Int32} (h : j < 24) : dast (mk Lx F A J) 15 0 (nI j) x = some (mk Lx F (up A 15 (up (A 15) j x)) J) := m_ast (by decide) (fun _ _ _ => rfl) h (by decide)
theorem n15 : dalen (mk Lx F A J) 15 = some (nI 24) := rfl
theorem a16 {j : Nat} (h : j < 24) : dald (mk Lx F A J) 16 0 (nI j) = some (A 16 j) := m_ald (fun _ _ _ => rfl) h (by decide)
theorem w16 {j : Nat} {x : Int32} (h : j < 24) : dast (mk Lx F A J) 16 0 (nI j) x = some (mk Lx F (up A 16 (up (A 16) j x)) J) := m_ast (by decide) (fun _ _ _ => rfl) h (by decide)
theorem n16 : dalen (mk Lx F A J) 16 = some (nI 24) := rfl
theorem a17 {j : Nat} (h : j < 24) : dald (mk Lx F A J) 17 0 (nI j) = some (A 17 j) := m_ald (fun _ _ _ => rfl) h (by decide)
theorem w17 {j : Nat} {x : Int32} (h : j < 24) : dast (mk Lx F A J) 17 0 (nI j) x = some (mk Lx F (up A 17 (up (A 17) j x)) J) := m_ast (by decide) (fun _ _ _ => rfl) h (by decide)
theorem n17 : dalen (mk Lx F A J) 17 = some (nI 24) := rfl
theorem a18 {j : Nat} (h : j < 6) : dald (mk Lx F A J) 18 0 (nI j) = some (A 18 j) := m_ald (fun _ _ _ => rfl) h (by decide)
theorem w18 {j : Nat} {x : Int32} (h : j < 6) : dast (mk Lx F A J) 18 0 (nI j) x = some (mk Lx F (up A 18 (up (A 18) j x)) J) := m_ast (by decide) (fun _ _ _ => rfl) h (by decide)
theorem n18 : dalen (mk Lx F A J) 18 = some (nI 6) := rfl
theorem a19 {j : Nat} (h : j < 6) : dald (mk Lx F A J) 19 0 (nI j) = some (A 19 j) := m_ald (fun _ _ _ => rfl) h (by decide)
theorem w19 {j : Nat} {x : Int32} (h : j < 6) : dast (mk Lx F A J) 19 0 (nI j) x = some (mk Lx F (up A 19 (up (A 19) j x)) J) := m_ast (by decide) (fun _ _ _ => rfl) h (by decide)
theorem n19 : dalen (mk Lx F A J) 19 = some (nI 6) := rfl
theorem r20_0 : drld (mk Lx F A J) 20 (nI 0) = some (.ref 32) := rfl
theorem r20_1 : drld (mk Lx F A J) 20 (nI 1) = some (.ref 40) := rfl
theorem a21 {j : Nat} (h : j < 2) : dbld (mk Lx F A J) 21 (nI j) = some (A 21 j) := m_bldZ (by decide) (fun _ _ _ => rfl) h (by decide)
theorem w21 {j : Nat} {x : Int32} (h : j < 2) : dbst (mk Lx F A J) 21 (nI j) x = some (mk Lx F (up A 21 (up (A 21) j (vp_nar .boolean x))) J) := m_bstZ (by decide) (fun _ _ _ => rfl) h (by decide)
theorem a23 {j : Nat} (h : j < 24) : dald (mk Lx F A J) 23 0 (nI j) = some (A 23 j) := m_ald (fun _ _ _ => rfl) h (by decide)
theorem w23 {j : Nat} {x : Int32} (h : j < 24) : dast (mk Lx F A J) 23 0 (nI j) x = some (mk Lx F (up A 23 (up (A 23) j x)) J) := m_ast (by decide) (fun _ _ _ => rfl) h (by decide)
theorem n23 : dalen (mk Lx F A J) 23 = some (nI 24) := rfl
theorem a24 {j : Nat} (h : j < 13) : dald (mk Lx F A J) 24 0 (nI j) = some (A 24 j) := m_ald (fun _ _ _ => rfl) h (by decide)
theorem w24 {j : Nat} {x : Int32} (h : j < 13) : dast (mk Lx F A J) 24 0 (nI j) x = some (mk Lx F (up A 24 (up (A 24) j x)) J) := m_ast (by decide) (fun _ _ _ => rfl) h (by decide)
theorem n24 : dalen (mk Lx F A J) 24 = some (nI 13) := rfl
theorem a25 {j : Nat} (h : j < 13) : dlld (mk Lx F A J) 25 (nI j) = some (J 25 j) := m_lld (by decide) (fun _ _ _ => rfl) h (by decide)
theorem w25 {j : Nat} {x : Int64} (h : j < 13) : dlst (mk Lx F A J) 25 (nI j) x = some (mk Lx F A (up J 25 (up (J 25) j x))) := m_lst (by decide) (fun _ _ _ => rfl) h (by decide)
theorem n25 : dalen (mk Lx F A J) 25 = some (nI 13) := rfl
theorem a26 {j : Nat} (h : j < 6) : dbld (mk Lx F A J) 26 (nI j) = some (A 26 j) := m_bldZ (by decide) (fun _ _ _ => rfl) h (by decide)
theorem w26 {j : Nat} {x : Int32} (h : j < 6) : dbst (mk Lx F A J) 26 (nI j) x = some (mk Lx F (up A 26 (up (A 26) j (vp_nar .boolean x))) J) := m_bstZ (by decide) (fun _ _ _ => rfl) h (by decide)
theorem a28 {j : Nat} (h : j < 8) : dald (mk Lx F A J) 28 0 (nI j) = some (A 28 j) := m_ald (fun _ _ _ => rfl) h (by decide)
theorem w28 {j : Nat} {x : Int32} (h : j < 8) : dast (mk Lx F A J) 28 0 (nI j) x = some (mk Lx F (up A 28 (up (A 28) j x)) J) := m_ast (by decide) (fun _ _ _ => rfl) h (by decide)
theorem n28 : dalen (mk Lx F A J) 28 = some (nI 8) := rfl
theorem a30 {j : Nat} (h : j < 8) : dald (mk Lx F A J) 30 0 (nI j) = some (A 30 j) := m_ald (fun _ _ _ => rfl) h (by decide)
theorem w30 {j : Nat} {x : Int32} (h : j < 8) : dast (mk Lx F A J) 30 0 (nI j) x = some (mk Lx F (up A 30 (up (A 30) j x)) J) := m_ast (by decide) (fun _ _ _ => rfl) h (by decide)
theorem n30 : dalen (mk Lx F A J) 30 = some (nI 8) := rfl
theorem r31_0 : drld (mk Lx F A J) 31 (nI 0) = some (.ref 48) := rfl
theorem r31_1 : drld (mk Lx F A J) 31 (nI 1) = some (.ref 50) := rfl
theorem r31_2 : drld (mk Lx F A J) 31 (nI 2) = some (.ref 52) := rfl
theorem r31_3 : drld (mk Lx F A J) 31 (nI 3) = some (.ref 54) := rfl
theorem a33 {j : Nat} (h : j < 24) : dald (mk Lx F A J) 33 0 (nI j) = some (A 33 j) := m_ald (fun _ _ _ => rfl) h (by decide)
theorem w33 {j : Nat} {x : Int32} (h : j < 24) : dast (mk Lx F A J) 33 0 (nI j) x = some (mk Lx F (up A 33 (up (A 33) j x)) J) := m_ast (by decide) (fun _ _ _ => rfl) h (by decide)
theorem n33 : dalen (mk Lx F A J) 33 = some (nI 24) := rfl
theorem a34 {j : Nat} (h : j < 24) : dald (mk Lx F A J) 34 0 (nI j) = some (A 34 j) := m_ald (fun _ _ _ => rfl) h (by decide)
theorem w34 {j : Nat} {x : Int32} (h : j < 24) : dast (mk Lx F A J) 34 0 (nI j) x = some (mk Lx F (up A 34 (up (A 34) j x)) J) := m_ast (by decide) (fun _ _ _ => rfl) h (by decide)
theorem n34 : dalen (mk Lx F A J) 34 = some (nI 24) := rfl
theorem a35 {j : Nat} (h : j < 24) : dald (mk Lx F A J) 35 0 (nI j) = some (A 35 j) := m_ald (fun _ _ _ => rfl) h (by decide)
theorem w35 {j : Nat} {x : Int32} (h : j < 24) : dast (mk Lx F A J) 35 0 (nI j) x = some (mk Lx F (up A 35 (up (A 35) j x)) J) := m_ast (by decide) (fun _ _ _ => rfl) h (by decide)
theorem n35 : dalen (mk Lx F A J) 35 = some (nI 24) := rfl
theorem a36 {j : Nat} (h : j < 24) : dald (mk Lx F A J) 36 0 (nI j) = some (A 36 j) := m_ald (fun _ _ _ => rfl) h (by decide)
theorem w36 {j : Nat} {x : Int32} (h : j < 24) : dast (mk Lx F A J) 36 0 (nI j) x = some (mk Lx F (up A 36 (up (A 36) j x)) J) := m_ast (by decide) (fun _ _ _ => rfl) h (by decide)
theorem n36 : dalen (mk Lx F A J) 36 = some (nI 24) := rfl
theorem a37 {j : Nat} (h : j < 24) : dald (mk Lx F A J) 37 0 (nI j) = some (A 37 j) := m_ald (fun _ _ _ => rfl) h (by decide)
theorem w37 {j : Nat} {x : Int32} (h : j < 24) : dast (mk Lx F A J) 37 0 (nI j) x = some (mk Lx F (up A 37 (up (A 37) j x)) J) := m_ast (by decide) (fun _ _ _ => rfl) h (by decide)
theorem n37 : dalen (mk Lx F A J) 37 = some (nI 24) := rfl
theorem a38 {j : Nat} (h : j < 6) : dald (mk Lx F A J) 38 0 (nI j) = some (A 38 j) := m_ald (fun _ _ _ => rfl) h (by decide)
theorem w38 {j : Nat} {x : Int32} (h : j < 6) : dast (mk Lx F A J) 38 0 (nI j) x = some (mk Lx F (up A 38 (up (A 38) j x)) J) := m_ast (by decide) (fun _ _ _ => rfl) h (by decide)
theorem n38 : dalen (mk Lx F A J) 38 = some (nI 6) := rfl
theorem a39 {j : Nat} (h : j < 6) : dald (mk Lx F A J) 39 0 (nI j) = some (A 39 j) := m_ald (fun _ _ _ => rfl) h (by decide)
theorem w39 {j : Nat} {x : Int32} (h : j < 6) : dast (mk Lx F A J) 39 0 (nI j) x = some (mk Lx F (up A 39 (up (A 39) j x)) J) := m_ast (by decide) (fun _ _ _ => rfl) h (by decide)
theorem n39 : dalen (mk Lx F A J) 39 = some (nI 6) := rfl
theorem a41 {j : Nat} (h : j < 24) : dald (mk Lx F A J) 41 0 (nI j) = some (A 41 j) := m_ald (fun _ _ _ => rfl) h (by decide)
theorem w41 {j : Nat} {x : Int32} (h : j < 24) : dast (mk Lx F A J) 41 0 (nI j) x = some (mk Lx F (up A 41 (up (A 41) j x)) J) := m_ast (by decide) (fun _ _ _ => rfl) h (by decide)
theorem n41 : dalen (mk Lx F A J) 41 = some (nI 24) := rfl
theorem a42 {j : Nat} (h : j < 24) : dald (mk Lx F A J) 42 0 (nI j) = some (A 42 j) := m_ald (fun _ _ _ => rfl) h (by decide)
theorem w42 {j : Nat} {x : Int32} (h : j < 24) : dast (mk Lx F A J) 42 0 (nI j) x = some (mk Lx F (up A 42 (up (A 42) j x)) J) := m_ast (by decide) (fun _ _ _ => rfl) h (by decide)
theorem n42 : dalen (mk Lx F A J) 42 = some (nI 24) := rfl
theorem a43 {j : Nat} (h : j < 24) : dald (mk Lx F A J) 43 0 (nI j) = some (A 43 j) := m_ald (fun _ _ _ => rfl) h (by decide)
theorem w43 {j : Nat} {x : Int32} (h : j < 24) : dast (mk Lx F A J) 43 0 (nI j) x = some (mk Lx F (up A 43 (up (A 43) j x)) J) := m_ast (by decide) (fun _ _ _ => rfl) h (by decide)
theorem n43 : dalen (mk Lx F A J) 43 = some (nI 24) := rfl
theorem a44 {j : Nat} (h : j < 24) : dald (mk Lx F A J) 44 0 (nI j) = some (A 44 j) := m_ald (fun _ _ _ => rfl) h (by decide)
theorem w44 {j : Nat} {x : Int32} (h : j < 24) : dast (mk Lx F A J) 44 0 (nI j) x = some (mk Lx F (up A 44 (up (A 44) j x)) J) := m_ast (by decide) (fun _ _ _ => rfl) h (by decide)
theorem n44 : dalen (mk Lx F A J) 44 = some (nI 24) := rfl
theorem a45 {j : Nat} (h : j < 24) : dald (mk Lx F A J) 45 0 (nI j) = some (A 45 j) := m_ald (fun _ _ _ => rfl) h (by decide)
theorem w45 {j : Nat} {x : Int32} (h : j < 24) : dast (mk Lx F A J) 45 0 (nI j) x = some (mk Lx F (up A 45 (up (A 45) j x)) J) := m_ast (by decide) (fun _ _ _ => rfl) h (by decide)
theorem n45 : dalen (mk Lx F A J) 45 = some (nI 24) := rfl
theorem a46 {j : Nat} (h : j < 6) : dald (mk Lx F A J) 46 0 (nI j) = some (A 46 j) := m_ald (fun _ _ _ => rfl) h (by decide)
theorem w46 {j : Nat} {x : Int32} (h : j < 6) : dast (mk Lx F A J) 46 0 (nI j) x = some (mk Lx F (up A 46 (up (A 46) j x)) J) := m_ast (by decide) (fun _ _ _ => rfl) h (by decide)
theorem n46 : dalen (mk Lx F A J) 46 = some (nI 6) := rfl
theorem a47 {j : Nat} (h : j < 6) : dald (mk Lx F A J) 47 0 (nI j) = some (A 47 j) := m_ald (fun _ _ _ => rfl) h (by decide)
theorem w47 {j : Nat} {x : Int32} (h : j < 6) : dast (mk Lx F A J) 47 0 (nI j) x = some (mk Lx F (up A 47 (up (A 47) j x)) J) := m_ast (by decide) (fun _ _ _ => rfl) h (by decide)
theorem n47 : dalen (mk Lx F A J) 47 = some (nI 6) := rfl
theorem a49 {j : Nat} (h : j < 40) : dald (mk Lx F A J) 49 0 (nI j) = some (A 49 j) := m_ald (fun _ _ _ => rfl) h (by decide)
theorem w49 {j : Nat} {x : Int32} (h : j < 40) : dast (mk Lx F A J) 49 0 (nI j) x = some (mk Lx F (up A 49 (up (A 49) j x)) J) := m_ast (by decide) (fun _ _ _ => rfl) h (by decide)
theorem n49 : dalen (mk Lx F A J) 49 = some (nI 40) := rfl
theorem a51 {j : Nat} (h : j < 40) : dald (mk Lx F A J) 51 0 (nI j) = some (A 51 j) := m_ald (fun _ _ _ => rfl) h (by decide)
theorem w51 {j : Nat} {x : Int32} (h : j < 40) : dast (mk Lx F A J) 51 0 (nI j) x = some (mk Lx F (up A 51 (up (A 51) j x)) J) := m_ast (by decide) (fun _ _ _ => rfl) h (by decide)
theorem n51 : dalen (mk Lx F A J) 51 = some (nI 40) := rfl
theorem a53 {j : Nat} (h : j < 40) : dald (mk Lx F A J) 53 0 (nI j) = some (A 53 j) := m_ald (fun _ _ _ => rfl) h (by decide)
theorem w53 {j : Nat} {x : Int32} (h : j < 40) : dast (mk Lx F A J) 53 0 (nI j) x = some (mk Lx F (up A 53 (up (A 53) j x)) J) := m_ast (by decide) (fun _ _ _ => rfl) h (by decide)
theorem n53 : dalen (mk Lx F A J) 53 = some (nI 40) := rfl
theorem a55 {j : Nat} (h : j < 40) : dald (mk Lx F A J) 55 0 (nI j) = some (A 55 j) := m_ald (fun _ _ _ => rfl) h (by decide)
theorem w55 {j : Nat} {x : Int32} (h : j < 40) : dast (mk Lx F A J) 55 0 (nI j) x = some (mk Lx F (up A 55 (up (A 55) j x)) J) := m_ast (by decide) (fun _ _ _ => rfl) h (by decide)
theorem n55 : dalen (mk Lx F A J) 55 = some (nI 40) := rfl
theorem a57 {j : Nat} (h : j < 128) : dald (mk Lx F A J) 57 0 (nI j) = some (A 57 j) := m_ald (fun _ _ _ => rfl) h (by decide)
theorem w57 {j : Nat} {x : Int32} (h : j < 128) : dast (mk Lx F A J) 57 0 (nI j) x = some (mk Lx F (up A 57 (up (A 57) j x)) J) := m_ast (by decide) (fun _ _ _ => rfl) h (by decide)
theorem n57 : dalen (mk Lx F A J) 57 = some (nI 128) := rfl
theorem a58 {j : Nat} (h : j < 256) : dald (mk Lx F A J) 58 0 (nI j) = some (A 58 j) := m_ald (fun _ _ _ => rfl) h (by decide)
theorem w58 {j : Nat} {x : Int32} (h : j < 256) : dast (mk Lx F A J) 58 0 (nI j) x = some (mk Lx F (up A 58 (up (A 58) j x)) J) := m_ast (by decide) (fun _ _ _ => rfl) h (by decide)
theorem n58 : dalen (mk Lx F A J) 58 = some (nI 256) := rfl
theorem a59 {j : Nat} (h : j < 2) : dbld (mk Lx F A J) 59 (nI j) = some (A 59 j) := m_bldZ (by decide) (fun _ _ _ => rfl) h (by decide)
theorem w59 {j : Nat} {x : Int32} (h : j < 2) : dbst (mk Lx F A J) 59 (nI j) x = some (mk Lx F (up A 59 (up (A 59) j (vp_nar .boolean x))) J) := m_bstZ (by decide) (fun _ _ _ => rfl) h (by decide)
theorem a60 {j : Nat} (h : j < 128) : dald (mk Lx F A J) 60 0 (nI j) = some (A 60 j) := m_ald (fun _ _ _ => rfl) h (by decide)
theorem w60 {j : Nat} {x : Int32} (h : j < 128) : dast (mk Lx F A J) 60 0 (nI j) x = some (mk Lx F (up A 60 (up (A 60) j x)) J) := m_ast (by decide) (fun _ _ _ => rfl) h (by decide)
theorem n60 : dalen (mk Lx F A J) 60 = some (nI 128) := rfl
theorem a61 {j : Nat} (h : j < 320) : dald (mk Lx F A J) 61 0 (nI j) = some (A 61 j) := m_ald (fun _ _ _ => rfl) h (by decide)
theorem w61 {j : Nat} {x : Int32} (h : j < 320) : dast (mk Lx F A J) 61 0 (nI j) x = some (mk Lx F (up A 61 (up (A 61) j x)) J) := m_ast (by decide) (fun _ _ _ => rfl) h (by decide)
theorem n61 : dalen (mk Lx F A J) 61 = some (nI 320) := rfl
theorem a62 {j : Nat} (h : j < 7) : dald (mk Lx F A J) 62 0 (nI j) = some (A 62 j) := m_ald (fun _ _ _ => rfl) h (by decide)
theorem w62 {j : Nat} {x : Int32} (h : j < 7) : dast (mk Lx F A J) 62 0 (nI j) x = some (mk Lx F (up A 62 (up (A 62) j x)) J) := m_ast (by decide) (fun _ _ _ => rfl) h (by decide)
theorem n62 : dalen (mk Lx F A J) 62 = some (nI 7) := rfl
theorem a63 {j : Nat} (h : j < 6) : dbld (mk Lx F A J) 63 (nI j) = some (A 63 j) := m_bldZ (by decide) (fun _ _ _ => rfl) h (by decide)
theorem w63 {j : Nat} {x : Int32} (h : j < 6) : dbst (mk Lx F A J) 63 (nI j) x = some (mk Lx F (up A 63 (up (A 63) j (vp_nar .boolean x))) J) := m_bstZ (by decide) (fun _ _ _ => rfl) h (by decide)
theorem a64 {j : Nat} (h : j < 6) : dlld (mk Lx F A J) 64 (nI j) = some (J 64 j) := m_lld (by decide) (fun _ _ _ => rfl) h (by decide)
theorem w64 {j : Nat} {x : Int64} (h : j < 6) : dlst (mk Lx F A J) 64 (nI j) x = some (mk Lx F A (up J 64 (up (J 64) j x))) := m_lst (by decide) (fun _ _ _ => rfl) h (by decide)
theorem n64 : dalen (mk Lx F A J) 64 = some (nI 6) := rfl
theorem a65 {j : Nat} (h : j < 6) : dbld (mk Lx F A J) 65 (nI j) = some (A 65 j) := m_bldZ (by decide) (fun _ _ _ => rfl) h (by decide)
theorem w65 {j : Nat} {x : Int32} (h : j < 6) : dbst (mk Lx F A J) 65 (nI j) x = some (mk Lx F (up A 65 (up (A 65) j (vp_nar .boolean x))) J) := m_bstZ (by decide) (fun _ _ _ => rfl) h (by decide)
theorem a66 {j : Nat} (h : j < 8) : dald (mk Lx F A J) 66 0 (nI j) = some (A 66 j) := m_ald (fun _ _ _ => rfl) h (by decide)
theorem w66 {j : Nat} {x : Int32} (h : j < 8) : dast (mk Lx F A J) 66 0 (nI j) x = some (mk Lx F (up A 66 (up (A 66) j x)) J) := m_ast (by decide) (fun _ _ _ => rfl) h (by decide)
theorem n66 : dalen (mk Lx F A J) 66 = some (nI 8) := rfl
theorem a67 {j : Nat} (h : j < 8) : dald (mk Lx F A J) 67 0 (nI j) = some (A 67 j) := m_ald (fun _ _ _ => rfl) h (by decide)
theorem w67 {j : Nat} {x : Int32} (h : j < 8) : dast (mk Lx F A J) 67 0 (nI j) x = some (mk Lx F (up A 67 (up (A 67) j x)) J) := m_ast (by decide) (fun _ _ _ => rfl) h (by decide)
theorem n67 : dalen (mk Lx F A J) 67 = some (nI 8) := rfl
theorem a68 {j : Nat} (h : j < 13) : dbld (mk Lx F A J) 68 (nI j) = some (A 68 j) := m_bldZ (by decide) (fun _ _ _ => rfl) h (by decide)
theorem w68 {j : Nat} {x : Int32} (h : j < 13) : dbst (mk Lx F A J) 68 (nI j) x = some (mk Lx F (up A 68 (up (A 68) j (vp_nar .boolean x))) J) := m_bstZ (by decide) (fun _ _ _ => rfl) h (by decide)
theorem a69 {j : Nat} (h : j < 6) : dbld (mk Lx F A J) 69 (nI j) = some (A 69 j) := m_bldZ (by decide) (fun _ _ _ => rfl) h (by decide)
theorem w69 {j : Nat} {x : Int32} (h : j < 6) : dbst (mk Lx F A J) 69 (nI j) x = some (mk Lx F (up A 69 (up (A 69) j (vp_nar .boolean x))) J) := m_bstZ (by decide) (fun _ _ _ => rfl) h (by decide)
theorem a70 {j : Nat} (h : j < 24) : dbld (mk Lx F A J) 70 (nI j) = some (A 70 j) := m_bldZ (by decide) (fun _ _ _ => rfl) h (by decide)
theorem w70 {j : Nat} {x : Int32} (h : j < 24) : dbst (mk Lx F A J) 70 (nI j) x = some (mk Lx F (up A 70 (up (A 70) j (vp_nar .boolean x))) J) := m_bstZ (by decide) (fun _ _ _ => rfl) h (by decide)
theorem a71 {j : Nat} (h : j < 4) : dald (mk Lx F A J) 71 0 (nI j) = some (A 71 j) := m_ald (fun _ _ _ => rfl) h (by decide)
theorem w71 {j : Nat} {x : Int32} (h : j < 4) : dast (mk Lx F A J) 71 0 (nI j) x = some (mk Lx F (up A 71 (up (A 71) j x)) J) := m_ast (by decide) (fun _ _ _ => rfl) h (by decide)
theorem n71 : dalen (mk Lx F A J) 71 = some (nI 4) := rfl
theorem a72 {j : Nat} (h : j < 4) : dald (mk Lx F A J) 72 0 (nI j) = some (A 72 j) := m_ald (fun _ _ _ => rfl) h (by decide)
theorem w72 {j : Nat} {x : Int32} (h : j < 4) : dast (mk Lx F A J) 72 0 (nI j) x = some (mk Lx F (up A 72 (up (A 72) j x)) J) := m_ast (by decide) (fun _ _ _ => rfl) h (by decide)
theorem n72 : dalen (mk Lx F A J) 72 = some (nI 4) := rfl
theorem a73 {j : Nat} (h : j < 160) : dald (mk Lx F A J) 73 0 (nI j) = some (A 73 j) := m_ald (fun _ _ _ => rfl) h (by decide)
theorem w73 {j : Nat} {x : Int32} (h : j < 160) : dast (mk Lx F A J) 73 0 (nI j) x = some (mk Lx F (up A 73 (up (A 73) j x)) J) := m_ast (by decide) (fun _ _ _ => rfl) h (by decide)
theorem n73 : dalen (mk Lx F A J) 73 = some (nI 160) := rfl
theorem a74 {j : Nat} (h : j < 128) : dald (mk Lx F A J) 74 0 (nI j) = some (A 74 j) := m_ald (fun _ _ _ => rfl) h (by decide)
theorem w74 {j : Nat} {x : Int32} (h : j < 128) : dast (mk Lx F A J) 74 0 (nI j) x = some (mk Lx F (up A 74 (up (A 74) j x)) J) := m_ast (by decide) (fun _ _ _ => rfl) h (by decide)
theorem n74 : dalen (mk Lx F A J) 74 = some (nI 128) := rfl
theorem a75 {j : Nat} (h : j < Lx) (hn : Lx < 2 ^ 31) : dald (mk Lx F A J) 75 0 (nI j) = some (A 75 j) := m_ald (fun _ _ _ => rfl) h hn
theorem n75 : dalen (mk Lx F A J) 75 = some (nI Lx) := rfl
theorem cpP {P Q d n : Nat} (hP : isP P) (hQ : isP Q) (hd : (1 ≤ d ∧ d ≤ 5 ∧ n ≤ 24) ∨ ((d = 6 ∨ d = 7) ∧ n ≤ 6)) : dcopy (mk Lx F A J) (P + d) (nI 0) (Q + d) (nI 0) (nI n) = some (mk Lx F (up A (Q + d) (fun j => if j < n then A (P + d) j else A (Q + d) j)) J) := by
  rcases hd with ⟨h1, h2, h3⟩ | ⟨h1, h3⟩
  · have hd : d = 1 ∨ d = 2 ∨ d = 3 ∨ d = 4 ∨ d = 5 := by omega
    rcases hd with rfl | rfl | rfl | rfl | rfl <;> rcases hP with rfl | rfl | rfl | rfl <;> rcases hQ with rfl | rfl | rfl | rfl <;> exact m_copy (n0 := 24) (n1 := 24) (by decide) (by decide) (fun _ _ _ => rfl) (fun _ _ _ => rfl) h3 h3 (by omega)
  · rcases h1 with rfl | rfl <;> rcases hP with rfl | rfl | rfl | rfl <;> rcases hQ with rfl | rfl | rfl | rfl <;> exact m_copy (n0 := 6) (n1 := 6) (by decide) (by decide) (fun _ _ _ => rfl) (fun _ _ _ => rfl) h3 h3 (by omega)
end MEMQ

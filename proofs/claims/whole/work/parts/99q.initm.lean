/-! the constructor of the reference -/
theorem jgv {M1 v : Nat} {own : String} (hlt : M1 < dlaw) (hpl : (dpl4 M1).1 = 0) (hl : Cond.methodLink own v (dy M1) ∈ dgw) : GoodIn dgw (wsV own v (dy M1).cls (dy M1) (dwsM M1)) := by
  obtain ⟨⟨_, hini⟩, ⟨⟨hinst, hsel⟩, _⟩, _⟩ := dmok_i hlt hpl
  intro w hw
  rcases List.mem_append.mp hw with h1 | h1
  · have : w ∈ dgw := by
      simp only [List.mem_cons, List.not_mem_nil, or_false] at h1
      rcases h1 with rfl | rfl | rfl | rfl
      · exact hl
      · exact dat_in hinst
      · exact dat_in hsel
      · exact dat_in hini
    exact ⟨this, dgw_good this⟩
  · exact dgoodM hlt w h1
theorem dXt.cong {ad g adV : Nat → Nat} {Lx : Nat} {xs : Nat → Int32} {A : Nat → Prop} {U : State} {H : Heap} (e : ∀ k, dN ≤ k → ad k = g k) (h : dXt g adV Lx xs A U H) : dXt ad adV Lx xs A U H := by
  have e1 : (fun j => ad (dN + 1 + j)) = fun j => g (dN + 1 + j) := funext fun j => e _ (by omega)
  unfold dXt
  rw [e1, e dN (Nat.le_refl _)]
  obtain ⟨h1, h2, ⟨h3, h4⟩, h5⟩ := h
  exact ⟨h1, h2, ⟨h3, fun j c i t hj => by rw [e (dN + 1 + j) (by omega)]; exact h4 j c i t hj⟩, h5⟩
/-- the addresses, once the reference is made -/
def adG (g : Nat → Nat) (us : List Nat) : Nat → Nat := fun k => cond (Nat.ble 57 k && Nat.ble k 74) (us.getD (k - 57) 0) (g k)
theorem adG_at {g : Nat → Nat} {us : List Nat} {k : Nat} (h : k < 57 ∨ dN ≤ k) : adG g us k = g k := by
  unfold adG
  have : (Nat.ble 57 k && Nat.ble k 74) = false := by
    cases hb : (Nat.ble 57 k && Nat.ble k 74) with
    | false => rfl
    | true =>
      rw [Bool.and_eq_true, Nat.ble_eq, Nat.ble_eq] at hb
      unfold dN at h
      omega
  rw [this]
  rfl
def A2 (xs : Nat → Int32) : Nat → Nat → Int32 := fun p => cond (Nat.beq p 75) xs (cond (Nat.beq p 71) (upd (upd (upd (upd (fun _ => 0) (Int32.toNatClampNeg 0) (-4)) (Int32.toNatClampNeg 1) (-4)) (Int32.toNatClampNeg 2) (-4)) (Int32.toNatClampNeg 3) (-4)) (fun _ => 0))

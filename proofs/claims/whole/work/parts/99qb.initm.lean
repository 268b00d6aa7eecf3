section INITM
variable {D : va_G} {tyC : Nat → ClassId}
def st34 : List Value := [.null, .null, .null, .null, .null, .int 0, .int 0, .int 0, .int 0, .int 0, .int 0, .int 0, .null, .int 0, .int 0, .null, .null, .null, .null, .null, .int 0, .int 0, .null, .null, .int 0, .int 0, .int 0, .int 0, .null, .null, .null, .null, .int 0, .null]
/-- the world before the reference's constructor -/
def L57 (tyC : Nat → ClassId) (g : Nat → Nat) : va_W := L56 tyC g ++ [(g 56, .inr (6, st34))]
theorem app_r {α : Type} (l r : List α) {n : Nat} (h : n = l.length) : (List.range n).map (fun i => (l ++ r)[i]?) = l.map some := by
  subst h
  apply List.ext_getElem (by simp)
  intro i h1 h2
  have h3 : i < l.length := by simpa using h2
  rw [List.getElem_map, List.getElem_map, List.getElem_range, List.getElem?_append_left h3]
  exact List.getElem?_eq_getElem h3
theorem L57_r (g : Nat → Nat) : (List.range 56).map (fun i => (L57 tyC g)[i]?) = (L56 tyC g).map some := app_r (L56 tyC g) _ (by simp [L56])
theorem L57_c (g : Nat → Nat) : [56].map (fun i => (L57 tyC g)[i]?) = [(g 56, .inr (6, st34))].map some := rfl
theorem L57_n : va_nd (List.range 56) = true := by decide +kernel
theorem L57_d : ∀ i ∈ List.range 56, i ∉ [56] := by decide +kernel
/-- the first 56 places, the two rows of references set apart -/
def L56x (tyC : Nat → ClassId) (g : Nat → Nat) (pA pB : Nat → Option Nat) : va_W := ((L56 tyC g).set 20 (g 20, .inl (tyC 4, 2, .inr (.inr (.inr (.inr pA)))))).set 31 (g 31, .inl (tyC 5, 4, .inr (.inr (.inr (.inr pB)))))
def pA2 (g : Nat → Nat) : Nat → Option Nat := fun j => ([32, 40][j]?).map g
def pB4 (g : Nat → Nat) : Nat → Option Nat := fun j => ([48, 50, 52, 54][j]?).map g
theorem pA2_eq {g g' : Nat → Nat} (h1 : g 32 = g' 32) (h2 : g 40 = g' 40) : pA2 g = pA2 g' := by
  funext j
  match j with
  | 0 => exact congrArg some h1
  | 1 => exact congrArg some h2
  | n + 2 => rfl
theorem pB4_eq {g g' : Nat → Nat} (h1 : g 48 = g' 48) (h2 : g 50 = g' 50) (h3 : g 52 = g' 52) (h4 : g 54 = g' 54) : pB4 g = pB4 g' := by
  funext j
  match j with
  | 0 => exact congrArg some h1
  | 1 => exact congrArg some h2
  | 2 => exact congrArg some h3
  | 3 => exact congrArg some h4
  | n + 4 => rfl
set_option maxRecDepth 100000 in
set_option maxHeartbeats 40000000 in
theorem L56_x (g : Nat → Nat) : L56 tyC g = L56x tyC g (pA2 g) (pB4 g) := rfl
def md34 (u1 u2 u3 u4 u5 u6 u7 u8 u9 u10 u11 u12 u13 u14 u15 u16 u17 u18 : Nat) : List Value := [.ref u1, .ref u2, .ref u3, .ref u4, .ref u5, .int 0, .int 0, .int 0, .int 0, .int 0, .int 0, .int 0, .ref u6, .int 0, .int 0, .ref u7, .ref u8, .ref u9, .ref u10, .ref u11, .int 0, .int 0, .ref u12, .ref u13, .int 0, .int 0, .int 0, .int 0, .ref u14, .ref u15, .ref u16, .ref u17, .int 0, .ref u18]
def own7 (tyC : Nat → ClassId) (g : Nat → Nat) (u1 u2 u3 u4 u5 u6 u7 u8 u9 u10 u11 u12 u13 u14 u15 u16 u17 u18 : Nat) : va_W := (g 56, .inr (6, md34 u1 u2 u3 u4 u5 u6 u7 u8 u9 u10 u11 u12 u13 u14 u15 u16 u17 u18)) :: [(u1, .inl (tyC 0, 128, .inl (fun _ => 0))), (u2, .inl (tyC 0, 256, .inl (fun _ => 0))), (u3, .inl (tyC 2, 2, .inl (fun _ => 0))), (u4, .inl (tyC 0, 128, .inl (fun _ => 0))), (u5, .inl (tyC 0, 320, .inl (fun _ => 0))), (u6, .inl (tyC 0, 7, .inl (fun _ => 0))), (u7, .inl (tyC 2, 6, .inl (fun _ => 0))), (u8, .inl (tyC 3, 6, .inr (.inl (fun _ => 0)))), (u9, .inl (tyC 2, 6, .inl (fun _ => 0))), (u10, .inl (tyC 0, 8, .inl (fun _ => 0))), (u11, .inl (tyC 0, 8, .inl (fun _ => 0))), (u12, .inl (tyC 2, 13, .inl (fun _ => 0))), (u13, .inl (tyC 2, 6, .inl (fun _ => 0))), (u14, .inl (tyC 2, 24, .inl (fun _ => 0))), (u15, .inl (tyC 0, 4, .inl (upd (upd (upd (upd (fun _ => 0) (Int32.toNatClampNeg 0) (-4)) (Int32.toNatClampNeg 1) (-4)) (Int32.toNatClampNeg 2) (-4)) (Int32.toNatClampNeg 3) (-4)))), (u16, .inl (tyC 0, 4, .inl (fun _ => 0))), (u17, .inl (tyC 0, 160, .inl (fun _ => 0))), (u18, .inl (tyC 0, 128, .inl (fun _ => 0)))]
set_option maxRecDepth 100000 in
set_option maxHeartbeats 40000000 in
theorem ew7 (g : Nat → Nat) (Lx : Nat) (xs : Nat → Int32) (u1 u2 u3 u4 u5 u6 u7 u8 u9 u10 u11 u12 u13 u14 u15 u16 u17 u18 : Nat) : L56 tyC g ++ own7 tyC g u1 u2 u3 u4 u5 u6 u7 u8 u9 u10 u11 u12 u13 u14 u15 u16 u17 u18 = dws tyC (adG g [u1, u2, u3, u4, u5, u6, u7, u8, u9, u10, u11, u12, u13, u14, u15, u16, u17, u18]) (mk Lx F1 (A2 xs) J1) := by
  rw [L56_x, pA2_eq (g := g) (g' := adG g [u1, u2, u3, u4, u5, u6, u7, u8, u9, u10, u11, u12, u13, u14, u15, u16, u17, u18]) rfl rfl, pB4_eq (g := g) (g' := adG g [u1, u2, u3, u4, u5, u6, u7, u8, u9, u10, u11, u12, u13, u14, u15, u16, u17, u18]) rfl rfl rfl rfl]
  rfl
theorem tr7 {A : Nat → Prop} {H : Heap} {ws ws' : va_W} (e : ws = ws') (h : va_P D vwCl ws H ∧ va_D A ws) : va_P D vwCl ws' H ∧ va_D A ws' := by
  subst e
  exact h
theorem jn7 {A : Nat → Prop} {H0 H : Heap} (g : Nat → Nat) (Lx : Nat) (xs : Nat → Int32) (u1 u2 u3 u4 u5 u6 u7 u8 u9 u10 u11 u12 u13 u14 u15 u16 u17 u18 : Nat) (hP0 : va_P D vwCl (L57 tyC g) H0) (hDA : va_D A (L57 tyC g)) (hk : ∀ q : Nat, q < H0.size → ¬ va_A [(g 56, .inr (6, st34))] H0.size q → H[q]? = H0[q]?) (hF : ∀ q, va_A [(g 56, .inr (6, st34))] H0.size q → A q) (hP : va_P D vwCl (own7 tyC g u1 u2 u3 u4 u5 u6 u7 u8 u9 u10 u11 u12 u13 u14 u15 u16 u17 u18) H) (hD : va_D (va_A [(g 56, .inr (6, st34))] H0.size) (own7 tyC g u1 u2 u3 u4 u5 u6 u7 u8 u9 u10 u11 u12 u13 u14 u15 u16 u17 u18)) : va_P D vwCl (dws tyC (adG g [u1, u2, u3, u4, u5, u6, u7, u8, u9, u10, u11, u12, u13, u14, u15, u16, u17, u18]) (mk Lx F1 (A2 xs) J1)) H ∧ va_D A (dws tyC (adG g [u1, u2, u3, u4, u5, u6, u7, u8, u9, u10, u11, u12, u13, u14, u15, u16, u17, u18]) (mk Lx F1 (A2 xs) J1)) :=
  tr7 (ew7 g Lx xs u1 u2 u3 u4 u5 u6 u7 u8 u9 u10 u11 u12 u13 u14 u15 u16 u17 u18) (va_join hP0 hDA [56] (List.range 56) (L57_c g) (L57_r g) L57_n L57_d hk hF hP hD)
end INITM

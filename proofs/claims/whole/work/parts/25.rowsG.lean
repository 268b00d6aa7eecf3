theorem CX7_want (a0 : Nat) (a1 : Int32) (a2 : Int32) (σ : dS) : dcall mX7_want [.ref a0, .int a1, .int a2] σ = den mX7_want 0 [some (.ref a0), some (.int a1), some (.int a2)] [] σ := dcall_den (by decide) rfl
theorem rX7_want_2 (l0 l1 l2 : Option Value) (a0 : Int32) (q : Nat) (σ : dS) : den mX7_want 2 [l0, l1, l2] [.int a0, .ref q] σ = if disO σ q 6 = true then ((dcall mX7_isIf [.ref q, .int a0] σ).bind fun r => den mX7_want 5 [l0, l1, l2] (r.1.toList ++ []) r.2) else none := by
  by_cases h : disO σ q 6 = true
  · rw [if_pos h]; exact dn_callV (e := (0, 125, 1090)) (as := [.int a0]) (rest := []) eX7_want dX7_want_2 (by decide +kernel) rfl (by decide +kernel) rfl (dcat_le rfl) (dlen_le rfl) rfl h
  · rw [if_neg h]; exact den_noV (e := (0, 125, 1090)) (as := [.int a0]) (rest := []) eX7_want dX7_want_2 (by decide +kernel) rfl rfl rfl h
theorem rX7_want_26 (l0 l1 l2 : Option Value) (a0 : Int32) (a1 : Int32) (q : Nat) (σ : dS) : den mX7_want 26 [l0, l1, l2] [.int a1, .int a0, .ref q] σ = if disO σ q 6 = true then ((dcall mX7_becomes [.ref q, .int a0, .int a1] σ).bind fun r => den mX7_want 29 [l0, l1, l2] (r.1.toList ++ []) r.2) else none := by
  by_cases h : disO σ q 6 = true
  · rw [if_pos h]; exact dn_callV (e := (0, 157, 1099)) (as := [.int a0, .int a1]) (rest := []) eX7_want dX7_want_26 (by decide +kernel) rfl (by decide +kernel) rfl (dcat_le rfl) (dlen_le rfl) rfl h
  · rw [if_neg h]; exact den_noV (e := (0, 157, 1099)) (as := [.int a0, .int a1]) (rest := []) eX7_want dX7_want_26 (by decide +kernel) rfl rfl rfl h
set_option maxRecDepth 20000 in
theorem SX7_want : (∀ (l1 l2 : Option Value) (x : Nat) (st : List Value) (σ : dS), den mX7_want 0 [some (.ref x), l1, l2] st σ = den mX7_want 1 [some (.ref x), l1, l2] (.ref x :: st) σ) ∧
  (∀ (l0 l2 : Option Value) (x : Int32) (st : List Value) (σ : dS), den mX7_want 1 [l0, some (.int x), l2] st σ = den mX7_want 2 [l0, some (.int x), l2] (.int x :: st) σ) ∧
  (∀ (l0 l1 l2 : Option Value) (a0 : Int32) (q : Nat) (σ : dS), den mX7_want 2 [l0, l1, l2] [.int a0, .ref q] σ = if disO σ q 6 = true then ((dcall mX7_isIf [.ref q, .int a0] σ).bind fun r => den mX7_want 5 [l0, l1, l2] (r.1.toList ++ []) r.2) else none) ∧
  (∀ (l0 l1 l2 : Option Value) (x : Int32) (st : List Value) (σ : dS), den mX7_want 5 [l0, l1, l2] (.int x :: st) σ = if x = 0 then den mX7_want 32 [l0, l1, l2] st σ else den mX7_want 8 [l0, l1, l2] st σ) ∧
  (∀ (l0 l1 : Option Value) (x : Int32) (st : List Value) (σ : dS), den mX7_want 8 [l0, l1, some (.int x)] st σ = den mX7_want 9 [l0, l1, some (.int x)] (.int x :: st) σ) ∧
  (∀ (l0 l1 l2 : Option Value) (x : Int32) (st : List Value) (σ : dS), den mX7_want 9 [l0, l1, l2] (.int x :: st) σ = den mX7_want 10 [l0, l1, l2] (.long x.toInt64 :: st) σ) ∧
  (∀ (l0 l1 l2 : Option Value) (st : List Value) (σ : dS), den mX7_want 10 [l0, l1, l2] st σ = den mX7_want 11 [l0, l1, l2] (.long (lN 0) :: st) σ) ∧
  (∀ (l0 l1 l2 : Option Value) (st : List Value) (σ : dS), den mX7_want 11 [l0, l1, l2] st σ = den mX7_want 14 [l0, l1, l2] (.long (lN 2) :: st) σ) ∧
  (∀ (l0 l1 l2 : Option Value) (a0 : Int64) (a1 : Int64) (a2 : Int64) (σ : dS), den mX7_want 14 [l0, l1, l2] [.long a2, .long a1, .long a0] σ = (dcall mX7_in [.long a0, .long a1, .long a2] σ).bind fun r => den mX7_want 17 [l0, l1, l2] (r.1.toList ++ []) r.2) ∧
  (∀ (l0 l1 l2 : Option Value) (x : Int32) (st : List Value) (σ : dS), den mX7_want 17 [l0, l1, l2] (.int x :: st) σ = if x = 0 then den mX7_want 32 [l0, l1, l2] st σ else den mX7_want 20 [l0, l1, l2] st σ) ∧
  (∀ (l1 l2 : Option Value) (x : Nat) (st : List Value) (σ : dS), den mX7_want 20 [some (.ref x), l1, l2] st σ = den mX7_want 21 [some (.ref x), l1, l2] (.ref x :: st) σ) ∧
  (∀ (l0 l1 l2 : Option Value) (st : List Value) (σ : dS), den mX7_want 21 [l0, l1, l2] st σ = den mX7_want 23 [l0, l1, l2] (.int (nI 122) :: st) σ) ∧
  (∀ (l0 l2 : Option Value) (x : Int32) (st : List Value) (σ : dS), den mX7_want 23 [l0, some (.int x), l2] st σ = den mX7_want 24 [l0, some (.int x), l2] (.int x :: st) σ) ∧
  (∀ (l0 l1 l2 : Option Value) (x y : Int32) (st : List Value) (σ : dS), den mX7_want 24 [l0, l1, l2] (.int y :: .int x :: st) σ = den mX7_want 25 [l0, l1, l2] (.int (x + y) :: st) σ) ∧
  (∀ (l0 l1 : Option Value) (x : Int32) (st : List Value) (σ : dS), den mX7_want 25 [l0, l1, some (.int x)] st σ = den mX7_want 26 [l0, l1, some (.int x)] (.int x :: st) σ) ∧
  (∀ (l0 l1 l2 : Option Value) (a0 : Int32) (a1 : Int32) (q : Nat) (σ : dS), den mX7_want 26 [l0, l1, l2] [.int a1, .int a0, .ref q] σ = if disO σ q 6 = true then ((dcall mX7_becomes [.ref q, .int a0, .int a1] σ).bind fun r => den mX7_want 29 [l0, l1, l2] (r.1.toList ++ []) r.2) else none) ∧
  (∀ (l0 l1 l2 : Option Value) (st : List Value) (σ : dS), den mX7_want 29 [l0, l1, l2] st σ = den mX7_want 33 [l0, l1, l2] st σ) ∧
  (∀ (l0 l1 l2 : Option Value) (st : List Value) (σ : dS), den mX7_want 32 [l0, l1, l2] st σ = den mX7_want 33 [l0, l1, l2] (.int ((-1)) :: st) σ) ∧
  (∀ (l0 l1 l2 : Option Value) (v : Int32) (σ : dS), den mX7_want 33 [l0, l1, l2] [.int v] σ = some (some (.int v), σ)) :=
  ⟨fun l1 l2 x st σ => dn_aload_n eX7_want dX7_want_0 rfl,
  fun l0 l2 x st σ => dn_iload_n eX7_want dX7_want_1 rfl,
  fun l0 l1 l2 a0 q σ => rX7_want_2 l0 l1 l2 a0 q σ,
  fun l0 l1 l2 x st σ => dn_if_eq eX7_want dX7_want_5 (by decide),
  fun l0 l1 x st σ => dn_iload_n eX7_want dX7_want_8 rfl,
  fun l0 l1 l2 x st σ => dn_i2l eX7_want dX7_want_9,
  fun l0 l1 l2 st σ => dn_lconst eX7_want dX7_want_10 kc_lconst_0,
  fun l0 l1 l2 st σ => dn_ldc2_w (w := 2) (p := 1098) eX7_want dX7_want_11 (by decide +kernel) (by decide +kernel),
  fun l0 l1 l2 a0 a1 a2 σ => dn_callS (e := (1, 102, 879)) (as := [.long a0, .long a1, .long a2]) (rest := []) eX7_want dX7_want_14 (by decide +kernel) (Or.inl rfl) (by decide +kernel) rfl (dcat_le rfl) (dlen_le rfl) rfl,
  fun l0 l1 l2 x st σ => dn_if_eq eX7_want dX7_want_17 (by decide),
  fun l1 l2 x st σ => dn_aload_n eX7_want dX7_want_20 rfl,
  fun l0 l1 l2 st σ => dn_bipush eX7_want dX7_want_21 kc_bipush_122,
  fun l0 l2 x st σ => dn_iload_n eX7_want dX7_want_23 rfl,
  fun l0 l1 l2 x y st σ => dn_iadd eX7_want dX7_want_24,
  fun l0 l1 x st σ => dn_iload_n eX7_want dX7_want_25 rfl,
  fun l0 l1 l2 a0 a1 q σ => rX7_want_26 l0 l1 l2 a0 a1 q σ,
  fun l0 l1 l2 st σ => dn_goto eX7_want dX7_want_29 (by decide),
  fun l0 l1 l2 st σ => dn_iconst eX7_want dX7_want_32 kc_iconst_m1,
  fun l0 l1 l2 v σ => dn_ireturn eX7_want dX7_want_33 rfl⟩
theorem CX7_lowest (a0 : Int64) (a1 : Int64) (a2 : Int32) (σ : dS) : dcall mX7_lowest [.long a0, .long a1, .int a2] σ = den mX7_lowest 0 [some (.long a0), none, some (.long a1), none, some (.int a2), none, none, none, none, none, none] [] σ := dcall_den (by decide) rfl
theorem hX7_lowest_6 (l0 l1 l2 l3 l4 l5 l6 l8 l9 l10 : Option Value) (x : Int64) (st : List Value) (σ : dS) : den mX7_lowest 6 [l0, l1, l2, l3, l4, l5, l6, some (.long x), l8, l9, l10] st σ = den mX7_lowest 8 [l0, l1, l2, l3, l4, l5, l6, some (.long x), l8, l9, l10] (.long x :: st) σ := dn_lload eX7_lowest dX7_lowest_6 rfl
set_option maxRecDepth 20000 in
theorem SX7_lowest : (∀ (l0 l1 l3 l4 l5 l6 l7 l8 l9 l10 : Option Value) (x : Int64) (st : List Value) (σ : dS), den mX7_lowest 0 [l0, l1, some (.long x), l3, l4, l5, l6, l7, l8, l9, l10] st σ = den mX7_lowest 1 [l0, l1, some (.long x), l3, l4, l5, l6, l7, l8, l9, l10] (.long x :: st) σ) ∧
  (∀ (l0 l1 l2 l3 l5 l6 l7 l8 l9 l10 : Option Value) (x : Int64) (y : Int32) (st : List Value) (σ : dS), den mX7_lowest 1 [l0, l1, l2, l3, some (.int y), l5, l6, l7, l8, l9, l10] (.long x :: st) σ = den mX7_lowest 3 [l0, l1, l2, l3, some (.int y), some (.long x), none, l7, l8, l9, l10] st σ) ∧
  (∀ (l1 l2 l3 l4 l5 l6 l7 l8 l9 l10 : Option Value) (x : Int64) (st : List Value) (σ : dS), den mX7_lowest 3 [some (.long x), l1, l2, l3, l4, l5, l6, l7, l8, l9, l10] st σ = den mX7_lowest 4 [some (.long x), l1, l2, l3, l4, l5, l6, l7, l8, l9, l10] (.long x :: st) σ) ∧
  (∀ (l0 l1 l2 l3 l4 l5 l7 l8 l9 l10 : Option Value) (x : Int64) (st : List Value) (σ : dS), den mX7_lowest 4 [l0, l1, l2, l3, l4, l5, none, l7, l8, l9, l10] (.long x :: st) σ = den mX7_lowest 6 [l0, l1, l2, l3, l4, l5, none, some (.long x), none, l9, l10] st σ) ∧
  (∀ (l0 l1 l2 l3 l4 l5 l6 l7 l8 l9 l10 : Option Value) (st : List Value) (σ : dS), den mX7_lowest 8 [l0, l1, l2, l3, l4, l5, l6, l7, l8, l9, l10] st σ = den mX7_lowest 9 [l0, l1, l2, l3, l4, l5, l6, l7, l8, l9, l10] (.long (lN 0) :: st) σ) ∧
  (∀ (l0 l1 l2 l3 l4 l5 l6 l7 l8 l9 l10 : Option Value) (x y : Int64) (st : List Value) (σ : dS), den mX7_lowest 9 [l0, l1, l2, l3, l4, l5, l6, l7, l8, l9, l10] (.long y :: .long x :: st) σ = den mX7_lowest 10 [l0, l1, l2, l3, l4, l5, l6, l7, l8, l9, l10] (.int (lg_cmp x y) :: st) σ) ∧
  (∀ (l0 l1 l2 l3 l4 l5 l6 l7 l8 l9 l10 : Option Value) (x : Int32) (st : List Value) (σ : dS), den mX7_lowest 10 [l0, l1, l2, l3, l4, l5, l6, l7, l8, l9, l10] (.int x :: st) σ = if x = 0 then den mX7_lowest 31 [l0, l1, l2, l3, l4, l5, l6, l7, l8, l9, l10] st σ else den mX7_lowest 13 [l0, l1, l2, l3, l4, l5, l6, l7, l8, l9, l10] st σ) ∧
  (∀ (l0 l1 l2 l3 l4 l6 l7 l8 l9 l10 : Option Value) (x : Int64) (st : List Value) (σ : dS), den mX7_lowest 13 [l0, l1, l2, l3, l4, some (.long x), l6, l7, l8, l9, l10] st σ = den mX7_lowest 15 [l0, l1, l2, l3, l4, some (.long x), l6, l7, l8, l9, l10] (.long x :: st) σ) ∧
  (∀ (l0 l1 l2 l3 l4 l5 l6 l8 l9 l10 : Option Value) (x : Int64) (st : List Value) (σ : dS), den mX7_lowest 15 [l0, l1, l2, l3, l4, l5, l6, some (.long x), l8, l9, l10] st σ = den mX7_lowest 17 [l0, l1, l2, l3, l4, l5, l6, some (.long x), l8, l9, l10] (.long x :: st) σ) ∧
  (∀ (l0 l1 l2 l3 l4 l5 l6 l7 l8 l9 l10 : Option Value) (x y : Int64) (st : List Value) (σ : dS), den mX7_lowest 17 [l0, l1, l2, l3, l4, l5, l6, l7, l8, l9, l10] (.long y :: .long x :: st) σ = if y = 0 then none else den mX7_lowest 18 [l0, l1, l2, l3, l4, l5, l6, l7, l8, l9, l10] (.long (x - x / y * y) :: st) σ) ∧
  (∀ (l0 l1 l2 l3 l4 l5 l6 l7 l9 l10 : Option Value) (x : Int64) (st : List Value) (σ : dS), den mX7_lowest 18 [l0, l1, l2, l3, l4, l5, l6, l7, none, l9, l10] (.long x :: st) σ = den mX7_lowest 20 [l0, l1, l2, l3, l4, l5, l6, l7, none, some (.long x), none] st σ) ∧
  (∀ (l0 l1 l2 l3 l4 l5 l6 l8 l9 l10 : Option Value) (x : Int64) (st : List Value) (σ : dS), den mX7_lowest 20 [l0, l1, l2, l3, l4, l5, l6, some (.long x), l8, l9, l10] st σ = den mX7_lowest 22 [l0, l1, l2, l3, l4, l5, l6, some (.long x), l8, l9, l10] (.long x :: st) σ) ∧
  (∀ (l0 l1 l2 l3 l5 l6 l7 l8 l9 l10 : Option Value) (x : Int64) (y : Int32) (st : List Value) (σ : dS), den mX7_lowest 22 [l0, l1, l2, l3, some (.int y), l5, l6, l7, l8, l9, l10] (.long x :: st) σ = den mX7_lowest 24 [l0, l1, l2, l3, some (.int y), some (.long x), none, l7, l8, l9, l10] st σ) ∧
  (∀ (l0 l1 l2 l3 l4 l5 l6 l7 l8 l10 : Option Value) (x : Int64) (st : List Value) (σ : dS), den mX7_lowest 24 [l0, l1, l2, l3, l4, l5, l6, l7, l8, some (.long x), l10] st σ = den mX7_lowest 26 [l0, l1, l2, l3, l4, l5, l6, l7, l8, some (.long x), l10] (.long x :: st) σ) ∧
  (∀ (l0 l1 l2 l3 l4 l5 l7 l8 l9 l10 : Option Value) (x : Int64) (st : List Value) (σ : dS), den mX7_lowest 26 [l0, l1, l2, l3, l4, l5, none, l7, l8, l9, l10] (.long x :: st) σ = den mX7_lowest 28 [l0, l1, l2, l3, l4, l5, none, some (.long x), none, l9, l10] st σ) ∧
  (∀ (l0 l1 l2 l3 l4 l5 l6 l7 l8 l9 l10 : Option Value) (st : List Value) (σ : dS), den mX7_lowest 28 [l0, l1, l2, l3, l4, l5, l6, l7, l8, l9, l10] st σ = den mX7_lowest 6 [l0, l1, l2, l3, l4, l5, l6, l7, l8, l9, l10] st σ) ∧
  (∀ (l0 l1 l2 l3 l5 l6 l7 l8 l9 l10 : Option Value) (x : Int32) (st : List Value) (σ : dS), den mX7_lowest 31 [l0, l1, l2, l3, some (.int x), l5, l6, l7, l8, l9, l10] st σ = den mX7_lowest 33 [l0, l1, l2, l3, some (.int x), l5, l6, l7, l8, l9, l10] (.int x :: st) σ) ∧
  (∀ (l0 l1 l2 l3 l4 l5 l6 l7 l8 l9 l10 : Option Value) (x : Int32) (st : List Value) (σ : dS), den mX7_lowest 33 [l0, l1, l2, l3, l4, l5, l6, l7, l8, l9, l10] (.int x :: st) σ = if x = 0 then den mX7_lowest 36 [l0, l1, l2, l3, l4, l5, l6, l7, l8, l9, l10] st σ else den mX7_lowest 43 [l0, l1, l2, l3, l4, l5, l6, l7, l8, l9, l10] st σ) ∧
  (∀ (l1 l2 l3 l4 l5 l6 l7 l8 l9 l10 : Option Value) (x : Int64) (st : List Value) (σ : dS), den mX7_lowest 36 [some (.long x), l1, l2, l3, l4, l5, l6, l7, l8, l9, l10] st σ = den mX7_lowest 37 [some (.long x), l1, l2, l3, l4, l5, l6, l7, l8, l9, l10] (.long x :: st) σ) ∧
  (∀ (l0 l1 l2 l3 l4 l6 l7 l8 l9 l10 : Option Value) (x : Int64) (st : List Value) (σ : dS), den mX7_lowest 37 [l0, l1, l2, l3, l4, some (.long x), l6, l7, l8, l9, l10] st σ = den mX7_lowest 39 [l0, l1, l2, l3, l4, some (.long x), l6, l7, l8, l9, l10] (.long x :: st) σ) ∧
  (∀ (l0 l1 l2 l3 l4 l5 l6 l7 l8 l9 l10 : Option Value) (x y : Int64) (st : List Value) (σ : dS), den mX7_lowest 39 [l0, l1, l2, l3, l4, l5, l6, l7, l8, l9, l10] (.long y :: .long x :: st) σ = if y = 0 then none else den mX7_lowest 40 [l0, l1, l2, l3, l4, l5, l6, l7, l8, l9, l10] (.long (x / y) :: st) σ) ∧
  (∀ (l0 l1 l2 l3 l4 l5 l6 l7 l8 l9 l10 : Option Value) (st : List Value) (σ : dS), den mX7_lowest 40 [l0, l1, l2, l3, l4, l5, l6, l7, l8, l9, l10] st σ = den mX7_lowest 47 [l0, l1, l2, l3, l4, l5, l6, l7, l8, l9, l10] st σ) ∧
  (∀ (l0 l1 l3 l4 l5 l6 l7 l8 l9 l10 : Option Value) (x : Int64) (st : List Value) (σ : dS), den mX7_lowest 43 [l0, l1, some (.long x), l3, l4, l5, l6, l7, l8, l9, l10] st σ = den mX7_lowest 44 [l0, l1, some (.long x), l3, l4, l5, l6, l7, l8, l9, l10] (.long x :: st) σ) ∧
  (∀ (l0 l1 l2 l3 l4 l6 l7 l8 l9 l10 : Option Value) (x : Int64) (st : List Value) (σ : dS), den mX7_lowest 44 [l0, l1, l2, l3, l4, some (.long x), l6, l7, l8, l9, l10] st σ = den mX7_lowest 46 [l0, l1, l2, l3, l4, some (.long x), l6, l7, l8, l9, l10] (.long x :: st) σ) ∧
  (∀ (l0 l1 l2 l3 l4 l5 l6 l7 l8 l9 l10 : Option Value) (x y : Int64) (st : List Value) (σ : dS), den mX7_lowest 46 [l0, l1, l2, l3, l4, l5, l6, l7, l8, l9, l10] (.long y :: .long x :: st) σ = if y = 0 then none else den mX7_lowest 47 [l0, l1, l2, l3, l4, l5, l6, l7, l8, l9, l10] (.long (x / y) :: st) σ) ∧
  (∀ (l0 l1 l2 l3 l4 l5 l6 l7 l8 l9 l10 : Option Value) (v : Int64) (σ : dS), den mX7_lowest 47 [l0, l1, l2, l3, l4, l5, l6, l7, l8, l9, l10] [.long v] σ = some (some (.long v), σ)) :=
  ⟨fun l0 l1 l3 l4 l5 l6 l7 l8 l9 l10 x st σ => dn_lload_n eX7_lowest dX7_lowest_0 rfl,
  fun l0 l1 l2 l3 l5 l6 l7 l8 l9 l10 x y st σ => dn_lstore eX7_lowest dX7_lowest_1 rfl,
  fun l1 l2 l3 l4 l5 l6 l7 l8 l9 l10 x st σ => dn_lload_n eX7_lowest dX7_lowest_3 rfl,
  fun l0 l1 l2 l3 l4 l5 l7 l8 l9 l10 x st σ => dn_lstore eX7_lowest dX7_lowest_4 rfl,
  fun l0 l1 l2 l3 l4 l5 l6 l7 l8 l9 l10 st σ => dn_lconst eX7_lowest dX7_lowest_8 kc_lconst_0,
  fun l0 l1 l2 l3 l4 l5 l6 l7 l8 l9 l10 x y st σ => dn_lcmp eX7_lowest dX7_lowest_9,
  fun l0 l1 l2 l3 l4 l5 l6 l7 l8 l9 l10 x st σ => dn_if_eq eX7_lowest dX7_lowest_10 (by decide),
  fun l0 l1 l2 l3 l4 l6 l7 l8 l9 l10 x st σ => dn_lload eX7_lowest dX7_lowest_13 rfl,
  fun l0 l1 l2 l3 l4 l5 l6 l8 l9 l10 x st σ => dn_lload eX7_lowest dX7_lowest_15 rfl,
  fun l0 l1 l2 l3 l4 l5 l6 l7 l8 l9 l10 x y st σ => dn_lrem eX7_lowest dX7_lowest_17,
  fun l0 l1 l2 l3 l4 l5 l6 l7 l9 l10 x st σ => dn_lstore eX7_lowest dX7_lowest_18 rfl,
  fun l0 l1 l2 l3 l4 l5 l6 l8 l9 l10 x st σ => dn_lload eX7_lowest dX7_lowest_20 rfl,
  fun l0 l1 l2 l3 l5 l6 l7 l8 l9 l10 x y st σ => dn_lstore eX7_lowest dX7_lowest_22 rfl,
  fun l0 l1 l2 l3 l4 l5 l6 l7 l8 l10 x st σ => dn_lload eX7_lowest dX7_lowest_24 rfl,
  fun l0 l1 l2 l3 l4 l5 l7 l8 l9 l10 x st σ => dn_lstore eX7_lowest dX7_lowest_26 rfl,
  fun l0 l1 l2 l3 l4 l5 l6 l7 l8 l9 l10 st σ => dn_goto eX7_lowest dX7_lowest_28 (by decide),
  fun l0 l1 l2 l3 l5 l6 l7 l8 l9 l10 x st σ => dn_iload eX7_lowest dX7_lowest_31 rfl,
  fun l0 l1 l2 l3 l4 l5 l6 l7 l8 l9 l10 x st σ => dn_if_ne eX7_lowest dX7_lowest_33 (by decide),
  fun l1 l2 l3 l4 l5 l6 l7 l8 l9 l10 x st σ => dn_lload_n eX7_lowest dX7_lowest_36 rfl,
  fun l0 l1 l2 l3 l4 l6 l7 l8 l9 l10 x st σ => dn_lload eX7_lowest dX7_lowest_37 rfl,
  fun l0 l1 l2 l3 l4 l5 l6 l7 l8 l9 l10 x y st σ => dn_ldiv eX7_lowest dX7_lowest_39,
  fun l0 l1 l2 l3 l4 l5 l6 l7 l8 l9 l10 st σ => dn_goto eX7_lowest dX7_lowest_40 (by decide),
  fun l0 l1 l3 l4 l5 l6 l7 l8 l9 l10 x st σ => dn_lload_n eX7_lowest dX7_lowest_43 rfl,
  fun l0 l1 l2 l3 l4 l6 l7 l8 l9 l10 x st σ => dn_lload eX7_lowest dX7_lowest_44 rfl,
  fun l0 l1 l2 l3 l4 l5 l6 l7 l8 l9 l10 x y st σ => dn_ldiv eX7_lowest dX7_lowest_46,
  fun l0 l1 l2 l3 l4 l5 l6 l7 l8 l9 l10 v σ => dn_lreturn eX7_lowest dX7_lowest_47 rfl⟩
theorem CX7_mean (a0 : Nat) (a1 : Int32) (σ : dS) : dcall mX7_mean [.ref a0, .int a1] σ = den mX7_mean 0 [some (.ref a0), some (.int a1)] [] σ := dcall_den (by decide) rfl
theorem rX7_mean_12 (l0 l1 : Option Value) (q : Nat) (σ : dS) : den mX7_mean 12 [l0, l1] [.ref q] σ = if disO σ q 6 = true then ((dcall mX7_findMeans [.ref q] σ).bind fun r => den mX7_mean 15 [l0, l1] (r.1.toList ++ []) r.2) else none := by
  by_cases h : disO σ q 6 = true
  · rw [if_pos h]; exact dn_callV (e := (0, 136, 974)) (as := []) (rest := []) eX7_mean dX7_mean_12 (by decide +kernel) rfl (by decide +kernel) rfl (dcat_le rfl) (dlen_le rfl) rfl h
  · rw [if_neg h]; exact den_noV (e := (0, 136, 974)) (as := []) (rest := []) eX7_mean dX7_mean_12 (by decide +kernel) rfl rfl rfl h
theorem rX7_mean_17 (l0 l1 : Option Value) (a0 : Int32) (q : Nat) (σ : dS) : den mX7_mean 17 [l0, l1] [.int a0, .ref q] σ = if disO σ q 6 = true then ((dcall mX7_meansUnder [.ref q, .int a0] σ).bind fun r => den mX7_mean 20 [l0, l1] (r.1.toList ++ []) r.2) else none := by
  by_cases h : disO σ q 6 = true
  · rw [if_pos h]; exact dn_callV (e := (0, 135, 979)) (as := [.int a0]) (rest := []) eX7_mean dX7_mean_17 (by decide +kernel) rfl (by decide +kernel) rfl (dcat_le rfl) (dlen_le rfl) rfl h
  · rw [if_neg h]; exact den_noV (e := (0, 135, 979)) (as := [.int a0]) (rest := []) eX7_mean dX7_mean_17 (by decide +kernel) rfl rfl rfl h
set_option maxRecDepth 20000 in
theorem SX7_mean : (∀ (l0 : Option Value) (x : Int32) (st : List Value) (σ : dS), den mX7_mean 0 [l0, some (.int x)] st σ = den mX7_mean 1 [l0, some (.int x)] (.int x :: st) σ) ∧
  (∀ (l0 l1 : Option Value) (a0 : Int32) (σ : dS), den mX7_mean 1 [l0, l1] [.int a0] σ = (dcall mX7_isPart [.int a0] σ).bind fun r => den mX7_mean 4 [l0, l1] (r.1.toList ++ []) r.2) ∧
  (∀ (l0 l1 : Option Value) (x : Int32) (st : List Value) (σ : dS), den mX7_mean 4 [l0, l1] (.int x :: st) σ = if x = 0 then den mX7_mean 7 [l0, l1] st σ else den mX7_mean 11 [l0, l1] st σ) ∧
  (∀ (l0 l1 : Option Value) (st : List Value) (σ : dS), den mX7_mean 7 [l0, l1] st σ = den mX7_mean 10 [l0, l1] (.long ((-1)) :: st) σ) ∧
  (∀ (l0 l1 : Option Value) (v : Int64) (σ : dS), den mX7_mean 10 [l0, l1] [.long v] σ = some (some (.long v), σ)) ∧
  (∀ (l1 : Option Value) (x : Nat) (st : List Value) (σ : dS), den mX7_mean 11 [some (.ref x), l1] st σ = den mX7_mean 12 [some (.ref x), l1] (.ref x :: st) σ) ∧
  (∀ (l0 l1 : Option Value) (q : Nat) (σ : dS), den mX7_mean 12 [l0, l1] [.ref q] σ = if disO σ q 6 = true then ((dcall mX7_findMeans [.ref q] σ).bind fun r => den mX7_mean 15 [l0, l1] (r.1.toList ++ []) r.2) else none) ∧
  (∀ (l1 : Option Value) (x : Nat) (st : List Value) (σ : dS), den mX7_mean 15 [some (.ref x), l1] st σ = den mX7_mean 16 [some (.ref x), l1] (.ref x :: st) σ) ∧
  (∀ (l0 l1 : Option Value) (st : List Value) (σ : dS), den mX7_mean 16 [l0, l1] st σ = den mX7_mean 17 [l0, l1] (.int (nI 0) :: st) σ) ∧
  (∀ (l0 l1 : Option Value) (a0 : Int32) (q : Nat) (σ : dS), den mX7_mean 17 [l0, l1] [.int a0, .ref q] σ = if disO σ q 6 = true then ((dcall mX7_meansUnder [.ref q, .int a0] σ).bind fun r => den mX7_mean 20 [l0, l1] (r.1.toList ++ []) r.2) else none) ∧
  (∀ (l0 l1 : Option Value) (st : List Value) (σ : dS), den mX7_mean 20 [l0, l1] st σ = den mX7_mean 23 [l0, l1] (.long (lN 1000000) :: st) σ) ∧
  (∀ (l0 : Option Value) (x : Int32) (st : List Value) (σ : dS), den mX7_mean 23 [l0, some (.int x)] st σ = den mX7_mean 24 [l0, some (.int x)] (.int x :: st) σ) ∧
  (∀ (l0 l1 : Option Value) (a0 : Int64) (a1 : Int64) (a2 : Int32) (σ : dS), den mX7_mean 24 [l0, l1] [.int a2, .long a1, .long a0] σ = (dcall mX7_lowest [.long a0, .long a1, .int a2] σ).bind fun r => den mX7_mean 27 [l0, l1] (r.1.toList ++ []) r.2) ∧
  (∀ (l0 l1 : Option Value) (v : Int64) (σ : dS), den mX7_mean 27 [l0, l1] [.long v] σ = some (some (.long v), σ)) :=
  ⟨fun l0 x st σ => dn_iload_n eX7_mean dX7_mean_0 rfl,
  fun l0 l1 a0 σ => dn_callS (e := (1, 127, 1078)) (as := [.int a0]) (rest := []) eX7_mean dX7_mean_1 (by decide +kernel) (Or.inl rfl) (by decide +kernel) rfl (dcat_le rfl) (dlen_le rfl) rfl,
  fun l0 l1 x st σ => dn_if_ne eX7_mean dX7_mean_4 (by decide),
  fun l0 l1 st σ => dn_ldc2_w (w := -1) (p := 1107) eX7_mean dX7_mean_7 (by decide +kernel) (by decide +kernel),
  fun l0 l1 v σ => dn_lreturn eX7_mean dX7_mean_10 rfl,
  fun l1 x st σ => dn_aload_n eX7_mean dX7_mean_11 rfl,
  fun l0 l1 q σ => rX7_mean_12 l0 l1 q σ,
  fun l1 x st σ => dn_aload_n eX7_mean dX7_mean_15 rfl,
  fun l0 l1 st σ => dn_iconst eX7_mean dX7_mean_16 kc_iconst_0,
  fun l0 l1 a0 q σ => rX7_mean_17 l0 l1 a0 q σ,
  fun l0 l1 st σ => dn_ldc2_w (w := 1000000) (p := 987) eX7_mean dX7_mean_20 (by decide +kernel) (by decide +kernel),
  fun l0 x st σ => dn_iload_n eX7_mean dX7_mean_23 rfl,
  fun l0 l1 a0 a1 a2 σ => dn_callS (e := (1, 159, 1108)) (as := [.long a0, .long a1, .int a2]) (rest := []) eX7_mean dX7_mean_24 (by decide +kernel) (Or.inl rfl) (by decide +kernel) rfl (dcat_le rfl) (dlen_le rfl) rfl,
  fun l0 l1 v σ => dn_lreturn eX7_mean dX7_mean_27 rfl⟩
theorem CX7_odds (a0 : Nat) (a1 : Int32) (a2 : Int32) (σ : dS) : dcall mX7_odds [.ref a0, .int a1, .int a2] σ = den mX7_odds 0 [some (.ref a0), some (.int a1), some (.int a2), none, none, none, none, none, none] [] σ := dcall_den (by decide) rfl
theorem rX7_odds_2 (l0 l1 l2 l3 l4 l5 l6 l7 l8 : Option Value) (a0 : Int32) (q : Nat) (σ : dS) : den mX7_odds 2 [l0, l1, l2, l3, l4, l5, l6, l7, l8] [.int a0, .ref q] σ = if disO σ q 6 = true then ((dcall mX7_isGuard [.ref q, .int a0] σ).bind fun r => den mX7_odds 5 [l0, l1, l2, l3, l4, l5, l6, l7, l8] (r.1.toList ++ []) r.2) else none := by
  by_cases h : disO σ q 6 = true
  · rw [if_pos h]; exact dn_callV (e := (0, 126, 1016)) (as := [.int a0]) (rest := []) eX7_odds dX7_odds_2 (by decide +kernel) rfl (by decide +kernel) rfl (dcat_le rfl) (dlen_le rfl) rfl h
  · rw [if_neg h]; exact den_noV (e := (0, 126, 1016)) (as := [.int a0]) (rest := []) eX7_odds dX7_odds_2 (by decide +kernel) rfl rfl rfl h
theorem hX7_odds_27 (l0 l1 l2 l3 l4 l5 l6 l8 : Option Value) (x : Int32) (st : List Value) (σ : dS) : den mX7_odds 27 [l0, l1, l2, l3, l4, l5, l6, some (.int x), l8] st σ = den mX7_odds 29 [l0, l1, l2, l3, l4, l5, l6, some (.int x), l8] (.int x :: st) σ := dn_iload eX7_odds dX7_odds_27 rfl
theorem rX7_odds_40 (l0 l1 l2 l3 l4 l5 l6 l7 l8 : Option Value) (a0 : Int32) (b0 : Nat) (q : Nat) (σ : dS) : den mX7_odds 40 [l0, l1, l2, l3, l4, l5, l6, l7, l8] [.int a0, .ref q, .ref b0] σ = if disO σ q 6 = true then ((dcall mX7_codeOf [.ref q, .int a0] σ).bind fun r => den mX7_odds 43 [l0, l1, l2, l3, l4, l5, l6, l7, l8] (r.1.toList ++ [.ref b0]) r.2) else none := by
  by_cases h : disO σ q 6 = true
  · rw [if_pos h]; exact dn_callV (e := (0, 123, 966)) (as := [.int a0]) (rest := [.ref b0]) eX7_odds dX7_odds_40 (by decide +kernel) rfl (by decide +kernel) rfl (dcat_le rfl) (dlen_le rfl) rfl h
  · rw [if_neg h]; exact den_noV (e := (0, 123, 966)) (as := [.int a0]) (rest := [.ref b0]) eX7_odds dX7_odds_40 (by decide +kernel) rfl rfl rfl h
theorem rX7_odds_44 (l0 l1 l2 l3 l4 l5 l6 l7 l8 : Option Value) (a0 : Int32) (a1 : Int32) (q : Nat) (σ : dS) : den mX7_odds 44 [l0, l1, l2, l3, l4, l5, l6, l7, l8] [.int a1, .int a0, .ref q] σ = if disO σ q 6 = true then ((dcall mX7_of [.ref q, .int a0, .int a1] σ).bind fun r => den mX7_odds 47 [l0, l1, l2, l3, l4, l5, l6, l7, l8] (r.1.toList ++ []) r.2) else none := by
  by_cases h : disO σ q 6 = true
  · rw [if_pos h]; exact dn_callV (e := (0, 120, 947)) (as := [.int a0, .int a1]) (rest := []) eX7_odds dX7_odds_44 (by decide +kernel) rfl (by decide +kernel) rfl (dcat_le rfl) (dlen_le rfl) rfl h
  · rw [if_neg h]; exact den_noV (e := (0, 120, 947)) (as := [.int a0, .int a1]) (rest := []) eX7_odds dX7_odds_44 (by decide +kernel) rfl rfl rfl h
theorem rX7_odds_83 (l0 l1 l2 l3 l4 l5 l6 l7 l8 : Option Value) (a0 : Int32) (q : Nat) (σ : dS) : den mX7_odds 83 [l0, l1, l2, l3, l4, l5, l6, l7, l8] [.int a0, .ref q] σ = if disO σ q 6 = true then ((dcall mX7_parentOf [.ref q, .int a0] σ).bind fun r => den mX7_odds 86 [l0, l1, l2, l3, l4, l5, l6, l7, l8] (r.1.toList ++ []) r.2) else none := by
  by_cases h : disO σ q 6 = true
  · rw [if_pos h]; exact dn_callV (e := (0, 128, 962)) (as := [.int a0]) (rest := []) eX7_odds dX7_odds_83 (by decide +kernel) rfl (by decide +kernel) rfl (dcat_le rfl) (dlen_le rfl) rfl h
  · rw [if_neg h]; exact den_noV (e := (0, 128, 962)) (as := [.int a0]) (rest := []) eX7_odds dX7_odds_83 (by decide +kernel) rfl rfl rfl h
set_option maxRecDepth 20000 in
theorem SX7_odds_0 : (∀ (l1 l2 l3 l4 l5 l6 l7 l8 : Option Value) (x : Nat) (st : List Value) (σ : dS), den mX7_odds 0 [some (.ref x), l1, l2, l3, l4, l5, l6, l7, l8] st σ = den mX7_odds 1 [some (.ref x), l1, l2, l3, l4, l5, l6, l7, l8] (.ref x :: st) σ) ∧
  (∀ (l0 l2 l3 l4 l5 l6 l7 l8 : Option Value) (x : Int32) (st : List Value) (σ : dS), den mX7_odds 1 [l0, some (.int x), l2, l3, l4, l5, l6, l7, l8] st σ = den mX7_odds 2 [l0, some (.int x), l2, l3, l4, l5, l6, l7, l8] (.int x :: st) σ) ∧
  (∀ (l0 l1 l2 l3 l4 l5 l6 l7 l8 : Option Value) (a0 : Int32) (q : Nat) (σ : dS), den mX7_odds 2 [l0, l1, l2, l3, l4, l5, l6, l7, l8] [.int a0, .ref q] σ = if disO σ q 6 = true then ((dcall mX7_isGuard [.ref q, .int a0] σ).bind fun r => den mX7_odds 5 [l0, l1, l2, l3, l4, l5, l6, l7, l8] (r.1.toList ++ []) r.2) else none) ∧
  (∀ (l0 l1 l2 l3 l4 l5 l6 l7 l8 : Option Value) (x : Int32) (st : List Value) (σ : dS), den mX7_odds 5 [l0, l1, l2, l3, l4, l5, l6, l7, l8] (.int x :: st) σ = if x = 0 then den mX7_odds 15 [l0, l1, l2, l3, l4, l5, l6, l7, l8] st σ else den mX7_odds 8 [l0, l1, l2, l3, l4, l5, l6, l7, l8] st σ) ∧
  (∀ (l0 l1 l3 l4 l5 l6 l7 l8 : Option Value) (x : Int32) (st : List Value) (σ : dS), den mX7_odds 8 [l0, l1, some (.int x), l3, l4, l5, l6, l7, l8] st σ = den mX7_odds 9 [l0, l1, some (.int x), l3, l4, l5, l6, l7, l8] (.int x :: st) σ) ∧
  (∀ (l0 l1 l2 l3 l4 l5 l6 l7 l8 : Option Value) (a0 : Int32) (σ : dS), den mX7_odds 9 [l0, l1, l2, l3, l4, l5, l6, l7, l8] [.int a0] σ = (dcall mX7_isPart [.int a0] σ).bind fun r => den mX7_odds 12 [l0, l1, l2, l3, l4, l5, l6, l7, l8] (r.1.toList ++ []) r.2) ∧
  (∀ (l0 l1 l2 l3 l4 l5 l6 l7 l8 : Option Value) (x : Int32) (st : List Value) (σ : dS), den mX7_odds 12 [l0, l1, l2, l3, l4, l5, l6, l7, l8] (.int x :: st) σ = if x = 0 then den mX7_odds 15 [l0, l1, l2, l3, l4, l5, l6, l7, l8] st σ else den mX7_odds 19 [l0, l1, l2, l3, l4, l5, l6, l7, l8] st σ) ∧
  (∀ (l0 l1 l2 l3 l4 l5 l6 l7 l8 : Option Value) (st : List Value) (σ : dS), den mX7_odds 15 [l0, l1, l2, l3, l4, l5, l6, l7, l8] st σ = den mX7_odds 18 [l0, l1, l2, l3, l4, l5, l6, l7, l8] (.long ((-1)) :: st) σ) ∧
  (∀ (l0 l1 l2 l3 l4 l5 l6 l7 l8 : Option Value) (v : Int64) (σ : dS), den mX7_odds 18 [l0, l1, l2, l3, l4, l5, l6, l7, l8] [.long v] σ = some (some (.long v), σ)) ∧
  (∀ (l0 l1 l2 l3 l4 l5 l6 l7 l8 : Option Value) (st : List Value) (σ : dS), den mX7_odds 19 [l0, l1, l2, l3, l4, l5, l6, l7, l8] st σ = den mX7_odds 20 [l0, l1, l2, l3, l4, l5, l6, l7, l8] (.long (lN 1) :: st) σ) ∧
  (∀ (l0 l1 l3 l4 l5 l6 l7 l8 : Option Value) (x : Int64) (y : Int32) (st : List Value) (σ : dS), den mX7_odds 20 [l0, l1, some (.int y), l3, l4, l5, l6, l7, l8] (.long x :: st) σ = den mX7_odds 21 [l0, l1, some (.int y), some (.long x), none, l5, l6, l7, l8] st σ) ∧
  (∀ (l0 l1 l2 l3 l4 l5 l6 l7 l8 : Option Value) (st : List Value) (σ : dS), den mX7_odds 21 [l0, l1, l2, l3, l4, l5, l6, l7, l8] st σ = den mX7_odds 22 [l0, l1, l2, l3, l4, l5, l6, l7, l8] (.long (lN 1) :: st) σ) ∧
  (∀ (l0 l1 l2 l3 l5 l6 l7 l8 : Option Value) (x : Int64) (st : List Value) (σ : dS), den mX7_odds 22 [l0, l1, l2, l3, none, l5, l6, l7, l8] (.long x :: st) σ = den mX7_odds 24 [l0, l1, l2, l3, none, some (.long x), none, l7, l8] st σ) ∧
  (∀ (l0 l2 l3 l4 l5 l6 l7 l8 : Option Value) (x : Int32) (st : List Value) (σ : dS), den mX7_odds 24 [l0, some (.int x), l2, l3, l4, l5, l6, l7, l8] st σ = den mX7_odds 25 [l0, some (.int x), l2, l3, l4, l5, l6, l7, l8] (.int x :: st) σ) ∧
  (∀ (l0 l1 l2 l3 l4 l5 l7 l8 : Option Value) (x : Int32) (st : List Value) (σ : dS), den mX7_odds 25 [l0, l1, l2, l3, l4, l5, none, l7, l8] (.int x :: st) σ = den mX7_odds 27 [l0, l1, l2, l3, l4, l5, none, some (.int x), l8] st σ) ∧
  (∀ (l0 l1 l2 l3 l4 l5 l6 l7 l8 : Option Value) (x : Int32) (st : List Value) (σ : dS), den mX7_odds 29 [l0, l1, l2, l3, l4, l5, l6, l7, l8] (.int x :: st) σ = if 0 < x then den mX7_odds 32 [l0, l1, l2, l3, l4, l5, l6, l7, l8] st σ else den mX7_odds 91 [l0, l1, l2, l3, l4, l5, l6, l7, l8] st σ) ∧
  (∀ (l1 l2 l3 l4 l5 l6 l7 l8 : Option Value) (x : Nat) (st : List Value) (σ : dS), den mX7_odds 32 [some (.ref x), l1, l2, l3, l4, l5, l6, l7, l8] st σ = den mX7_odds 33 [some (.ref x), l1, l2, l3, l4, l5, l6, l7, l8] (.ref x :: st) σ) ∧
  (∀ (l1 l2 l3 l4 l5 l6 l7 l8 : Option Value) (x : Nat) (st : List Value) (σ : dS), den mX7_odds 33 [some (.ref x), l1, l2, l3, l4, l5, l6, l7, l8] st σ = den mX7_odds 34 [some (.ref x), l1, l2, l3, l4, l5, l6, l7, l8] (.ref x :: st) σ) ∧
  (∀ (l0 l1 l2 l3 l4 l5 l6 l8 : Option Value) (x : Int32) (st : List Value) (σ : dS), den mX7_odds 34 [l0, l1, l2, l3, l4, l5, l6, some (.int x), l8] st σ = den mX7_odds 36 [l0, l1, l2, l3, l4, l5, l6, some (.int x), l8] (.int x :: st) σ) ∧
  (∀ (l0 l1 l2 l3 l4 l5 l6 l7 l8 : Option Value) (st : List Value) (σ : dS), den mX7_odds 36 [l0, l1, l2, l3, l4, l5, l6, l7, l8] st σ = den mX7_odds 37 [l0, l1, l2, l3, l4, l5, l6, l7, l8] (.int (nI 1) :: st) σ) ∧
  (∀ (l0 l1 l2 l3 l4 l5 l6 l7 l8 : Option Value) (x y : Int32) (st : List Value) (σ : dS), den mX7_odds 37 [l0, l1, l2, l3, l4, l5, l6, l7, l8] (.int y :: .int x :: st) σ = den mX7_odds 38 [l0, l1, l2, l3, l4, l5, l6, l7, l8] (.int (x - y) :: st) σ) ∧
  (∀ (l0 l1 l2 l3 l4 l5 l6 l7 l8 : Option Value) (st : List Value) (σ : dS), den mX7_odds 38 [l0, l1, l2, l3, l4, l5, l6, l7, l8] st σ = den mX7_odds 39 [l0, l1, l2, l3, l4, l5, l6, l7, l8] (.int (nI 2) :: st) σ) ∧
  (∀ (l0 l1 l2 l3 l4 l5 l6 l7 l8 : Option Value) (x y : Int32) (st : List Value) (σ : dS), den mX7_odds 39 [l0, l1, l2, l3, l4, l5, l6, l7, l8] (.int y :: .int x :: st) σ = if y = 0 then none else den mX7_odds 40 [l0, l1, l2, l3, l4, l5, l6, l7, l8] (.int (x / y) :: st) σ) ∧
  (∀ (l0 l1 l2 l3 l4 l5 l6 l7 l8 : Option Value) (a0 : Int32) (b0 : Nat) (q : Nat) (σ : dS), den mX7_odds 40 [l0, l1, l2, l3, l4, l5, l6, l7, l8] [.int a0, .ref q, .ref b0] σ = if disO σ q 6 = true then ((dcall mX7_codeOf [.ref q, .int a0] σ).bind fun r => den mX7_odds 43 [l0, l1, l2, l3, l4, l5, l6, l7, l8] (r.1.toList ++ [.ref b0]) r.2) else none) ∧
  (∀ (l0 l1 l2 l3 l4 l5 l6 l7 l8 : Option Value) (st : List Value) (σ : dS), den mX7_odds 43 [l0, l1, l2, l3, l4, l5, l6, l7, l8] st σ = den mX7_odds 44 [l0, l1, l2, l3, l4, l5, l6, l7, l8] (.int (nI 2) :: st) σ) ∧
  (∀ (l0 l1 l2 l3 l4 l5 l6 l7 l8 : Option Value) (a0 : Int32) (a1 : Int32) (q : Nat) (σ : dS), den mX7_odds 44 [l0, l1, l2, l3, l4, l5, l6, l7, l8] [.int a1, .int a0, .ref q] σ = if disO σ q 6 = true then ((dcall mX7_of [.ref q, .int a0, .int a1] σ).bind fun r => den mX7_odds 47 [l0, l1, l2, l3, l4, l5, l6, l7, l8] (r.1.toList ++ []) r.2) else none) ∧
  (∀ (l0 l1 l2 l3 l4 l5 l6 l8 : Option Value) (x : Int32) (y : Int32) (st : List Value) (σ : dS), den mX7_odds 47 [l0, l1, l2, l3, l4, l5, l6, some (.int y), l8] (.int x :: st) σ = den mX7_odds 49 [l0, l1, l2, l3, l4, l5, l6, some (.int y), some (.int x)] st σ) ∧
  (∀ (l0 l1 l2 l4 l5 l6 l7 l8 : Option Value) (x : Int64) (st : List Value) (σ : dS), den mX7_odds 49 [l0, l1, l2, some (.long x), l4, l5, l6, l7, l8] st σ = den mX7_odds 50 [l0, l1, l2, some (.long x), l4, l5, l6, l7, l8] (.long x :: st) σ) ∧
  (∀ (l0 l1 l2 l3 l4 l5 l6 l8 : Option Value) (x : Int32) (st : List Value) (σ : dS), den mX7_odds 50 [l0, l1, l2, l3, l4, l5, l6, some (.int x), l8] st σ = den mX7_odds 52 [l0, l1, l2, l3, l4, l5, l6, some (.int x), l8] (.int x :: st) σ) ∧
  (∀ (l0 l1 l2 l3 l4 l5 l6 l7 l8 : Option Value) (st : List Value) (σ : dS), den mX7_odds 52 [l0, l1, l2, l3, l4, l5, l6, l7, l8] st σ = den mX7_odds 53 [l0, l1, l2, l3, l4, l5, l6, l7, l8] (.int (nI 2) :: st) σ) ∧
  (∀ (l0 l1 l2 l3 l4 l5 l6 l7 l8 : Option Value) (x y : Int32) (st : List Value) (σ : dS), den mX7_odds 53 [l0, l1, l2, l3, l4, l5, l6, l7, l8] (.int y :: .int x :: st) σ = if y = 0 then none else den mX7_odds 54 [l0, l1, l2, l3, l4, l5, l6, l7, l8] (.int (x - x / y * y) :: st) σ) ∧
  (∀ (l0 l1 l2 l3 l4 l5 l6 l7 l8 : Option Value) (st : List Value) (σ : dS), den mX7_odds 54 [l0, l1, l2, l3, l4, l5, l6, l7, l8] st σ = den mX7_odds 55 [l0, l1, l2, l3, l4, l5, l6, l7, l8] (.int (nI 1) :: st) σ) ∧
  (∀ (l0 l1 l2 l3 l4 l5 l6 l7 l8 : Option Value) (x y : Int32) (st : List Value) (σ : dS), den mX7_odds 55 [l0, l1, l2, l3, l4, l5, l6, l7, l8] (.int y :: .int x :: st) σ = if x = y then den mX7_odds 58 [l0, l1, l2, l3, l4, l5, l6, l7, l8] st σ else den mX7_odds 64 [l0, l1, l2, l3, l4, l5, l6, l7, l8] st σ) ∧
  (∀ (l0 l1 l2 l3 l4 l5 l6 l7 : Option Value) (x : Int32) (st : List Value) (σ : dS), den mX7_odds 58 [l0, l1, l2, l3, l4, l5, l6, l7, some (.int x)] st σ = den mX7_odds 60 [l0, l1, l2, l3, l4, l5, l6, l7, some (.int x)] (.int x :: st) σ) ∧
  (∀ (l0 l1 l2 l3 l4 l5 l6 l7 l8 : Option Value) (x : Int32) (st : List Value) (σ : dS), den mX7_odds 60 [l0, l1, l2, l3, l4, l5, l6, l7, l8] (.int x :: st) σ = den mX7_odds 61 [l0, l1, l2, l3, l4, l5, l6, l7, l8] (.long x.toInt64 :: st) σ) ∧
  (∀ (l0 l1 l2 l3 l4 l5 l6 l7 l8 : Option Value) (st : List Value) (σ : dS), den mX7_odds 61 [l0, l1, l2, l3, l4, l5, l6, l7, l8] st σ = den mX7_odds 70 [l0, l1, l2, l3, l4, l5, l6, l7, l8] st σ) ∧
  (∀ (l0 l1 l2 l3 l4 l5 l6 l7 l8 : Option Value) (st : List Value) (σ : dS), den mX7_odds 64 [l0, l1, l2, l3, l4, l5, l6, l7, l8] st σ = den mX7_odds 66 [l0, l1, l2, l3, l4, l5, l6, l7, l8] (.int (nI 10) :: st) σ) ∧
  (∀ (l0 l1 l2 l3 l4 l5 l6 l7 : Option Value) (x : Int32) (st : List Value) (σ : dS), den mX7_odds 66 [l0, l1, l2, l3, l4, l5, l6, l7, some (.int x)] st σ = den mX7_odds 68 [l0, l1, l2, l3, l4, l5, l6, l7, some (.int x)] (.int x :: st) σ) ∧
  (∀ (l0 l1 l2 l3 l4 l5 l6 l7 l8 : Option Value) (x y : Int32) (st : List Value) (σ : dS), den mX7_odds 68 [l0, l1, l2, l3, l4, l5, l6, l7, l8] (.int y :: .int x :: st) σ = den mX7_odds 69 [l0, l1, l2, l3, l4, l5, l6, l7, l8] (.int (x - y) :: st) σ) ∧
  (∀ (l0 l1 l2 l3 l4 l5 l6 l7 l8 : Option Value) (x : Int32) (st : List Value) (σ : dS), den mX7_odds 69 [l0, l1, l2, l3, l4, l5, l6, l7, l8] (.int x :: st) σ = den mX7_odds 70 [l0, l1, l2, l3, l4, l5, l6, l7, l8] (.long x.toInt64 :: st) σ) :=
  ⟨fun l1 l2 l3 l4 l5 l6 l7 l8 x st σ => dn_aload_n eX7_odds dX7_odds_0 rfl,
  fun l0 l2 l3 l4 l5 l6 l7 l8 x st σ => dn_iload_n eX7_odds dX7_odds_1 rfl,
  fun l0 l1 l2 l3 l4 l5 l6 l7 l8 a0 q σ => rX7_odds_2 l0 l1 l2 l3 l4 l5 l6 l7 l8 a0 q σ,
  fun l0 l1 l2 l3 l4 l5 l6 l7 l8 x st σ => dn_if_eq eX7_odds dX7_odds_5 (by decide),
  fun l0 l1 l3 l4 l5 l6 l7 l8 x st σ => dn_iload_n eX7_odds dX7_odds_8 rfl,
  fun l0 l1 l2 l3 l4 l5 l6 l7 l8 a0 σ => dn_callS (e := (1, 127, 1078)) (as := [.int a0]) (rest := []) eX7_odds dX7_odds_9 (by decide +kernel) (Or.inl rfl) (by decide +kernel) rfl (dcat_le rfl) (dlen_le rfl) rfl,
  fun l0 l1 l2 l3 l4 l5 l6 l7 l8 x st σ => dn_if_ne eX7_odds dX7_odds_12 (by decide),
  fun l0 l1 l2 l3 l4 l5 l6 l7 l8 st σ => dn_ldc2_w (w := -1) (p := 1107) eX7_odds dX7_odds_15 (by decide +kernel) (by decide +kernel),
  fun l0 l1 l2 l3 l4 l5 l6 l7 l8 v σ => dn_lreturn eX7_odds dX7_odds_18 rfl,
  fun l0 l1 l2 l3 l4 l5 l6 l7 l8 st σ => dn_lconst eX7_odds dX7_odds_19 kc_lconst_1,
  fun l0 l1 l3 l4 l5 l6 l7 l8 x y st σ => dn_lstore_n eX7_odds dX7_odds_20 rfl,
  fun l0 l1 l2 l3 l4 l5 l6 l7 l8 st σ => dn_lconst eX7_odds dX7_odds_21 kc_lconst_1,
  fun l0 l1 l2 l3 l5 l6 l7 l8 x st σ => dn_lstore eX7_odds dX7_odds_22 rfl,
  fun l0 l2 l3 l4 l5 l6 l7 l8 x st σ => dn_iload_n eX7_odds dX7_odds_24 rfl,
  fun l0 l1 l2 l3 l4 l5 l7 l8 x st σ => dn_istore eX7_odds dX7_odds_25 rfl,
  fun l0 l1 l2 l3 l4 l5 l6 l7 l8 x st σ => dn_if_le eX7_odds dX7_odds_29 (by decide),
  fun l1 l2 l3 l4 l5 l6 l7 l8 x st σ => dn_aload_n eX7_odds dX7_odds_32 rfl,
  fun l1 l2 l3 l4 l5 l6 l7 l8 x st σ => dn_aload_n eX7_odds dX7_odds_33 rfl,
  fun l0 l1 l2 l3 l4 l5 l6 l8 x st σ => dn_iload eX7_odds dX7_odds_34 rfl,
  fun l0 l1 l2 l3 l4 l5 l6 l7 l8 st σ => dn_iconst eX7_odds dX7_odds_36 kc_iconst_1,
  fun l0 l1 l2 l3 l4 l5 l6 l7 l8 x y st σ => dn_isub eX7_odds dX7_odds_37,
  fun l0 l1 l2 l3 l4 l5 l6 l7 l8 st σ => dn_iconst eX7_odds dX7_odds_38 kc_iconst_2,
  fun l0 l1 l2 l3 l4 l5 l6 l7 l8 x y st σ => dn_idiv eX7_odds dX7_odds_39,
  fun l0 l1 l2 l3 l4 l5 l6 l7 l8 a0 b0 q σ => rX7_odds_40 l0 l1 l2 l3 l4 l5 l6 l7 l8 a0 b0 q σ,
  fun l0 l1 l2 l3 l4 l5 l6 l7 l8 st σ => dn_iconst eX7_odds dX7_odds_43 kc_iconst_2,
  fun l0 l1 l2 l3 l4 l5 l6 l7 l8 a0 a1 q σ => rX7_odds_44 l0 l1 l2 l3 l4 l5 l6 l7 l8 a0 a1 q σ,
  fun l0 l1 l2 l3 l4 l5 l6 l8 x y st σ => dn_istore eX7_odds dX7_odds_47 rfl,
  fun l0 l1 l2 l4 l5 l6 l7 l8 x st σ => dn_lload_n eX7_odds dX7_odds_49 rfl,
  fun l0 l1 l2 l3 l4 l5 l6 l8 x st σ => dn_iload eX7_odds dX7_odds_50 rfl,
  fun l0 l1 l2 l3 l4 l5 l6 l7 l8 st σ => dn_iconst eX7_odds dX7_odds_52 kc_iconst_2,
  fun l0 l1 l2 l3 l4 l5 l6 l7 l8 x y st σ => dn_irem eX7_odds dX7_odds_53,
  fun l0 l1 l2 l3 l4 l5 l6 l7 l8 st σ => dn_iconst eX7_odds dX7_odds_54 kc_iconst_1,
  fun l0 l1 l2 l3 l4 l5 l6 l7 l8 x y st σ => dn_icmp_ne eX7_odds dX7_odds_55 (by decide),
  fun l0 l1 l2 l3 l4 l5 l6 l7 x st σ => dn_iload eX7_odds dX7_odds_58 rfl,
  fun l0 l1 l2 l3 l4 l5 l6 l7 l8 x st σ => dn_i2l eX7_odds dX7_odds_60,
  fun l0 l1 l2 l3 l4 l5 l6 l7 l8 st σ => dn_goto eX7_odds dX7_odds_61 (by decide),
  fun l0 l1 l2 l3 l4 l5 l6 l7 l8 st σ => dn_bipush eX7_odds dX7_odds_64 kc_bipush_10,
  fun l0 l1 l2 l3 l4 l5 l6 l7 x st σ => dn_iload eX7_odds dX7_odds_66 rfl,
  fun l0 l1 l2 l3 l4 l5 l6 l7 l8 x y st σ => dn_isub eX7_odds dX7_odds_68,
  fun l0 l1 l2 l3 l4 l5 l6 l7 l8 x st σ => dn_i2l eX7_odds dX7_odds_69⟩
set_option maxRecDepth 20000 in
theorem SX7_odds_1 : (∀ (l0 l1 l2 l3 l4 l5 l6 l7 l8 : Option Value) (x y : Int64) (st : List Value) (σ : dS), den mX7_odds 70 [l0, l1, l2, l3, l4, l5, l6, l7, l8] (.long y :: .long x :: st) σ = den mX7_odds 71 [l0, l1, l2, l3, l4, l5, l6, l7, l8] (.long (x * y) :: st) σ) ∧
  (∀ (l0 l1 l3 l4 l5 l6 l7 l8 : Option Value) (x : Int64) (y : Int32) (st : List Value) (σ : dS), den mX7_odds 71 [l0, l1, some (.int y), l3, l4, l5, l6, l7, l8] (.long x :: st) σ = den mX7_odds 72 [l0, l1, some (.int y), some (.long x), none, l5, l6, l7, l8] st σ) ∧
  (∀ (l0 l1 l2 l3 l4 l6 l7 l8 : Option Value) (x : Int64) (st : List Value) (σ : dS), den mX7_odds 72 [l0, l1, l2, l3, l4, some (.long x), l6, l7, l8] st σ = den mX7_odds 74 [l0, l1, l2, l3, l4, some (.long x), l6, l7, l8] (.long x :: st) σ) ∧
  (∀ (l0 l1 l2 l3 l4 l5 l6 l7 l8 : Option Value) (st : List Value) (σ : dS), den mX7_odds 74 [l0, l1, l2, l3, l4, l5, l6, l7, l8] st σ = den mX7_odds 77 [l0, l1, l2, l3, l4, l5, l6, l7, l8] (.long (lN 10) :: st) σ) ∧
  (∀ (l0 l1 l2 l3 l4 l5 l6 l7 l8 : Option Value) (x y : Int64) (st : List Value) (σ : dS), den mX7_odds 77 [l0, l1, l2, l3, l4, l5, l6, l7, l8] (.long y :: .long x :: st) σ = den mX7_odds 78 [l0, l1, l2, l3, l4, l5, l6, l7, l8] (.long (x * y) :: st) σ) ∧
  (∀ (l0 l1 l2 l3 l5 l6 l7 l8 : Option Value) (x : Int64) (st : List Value) (σ : dS), den mX7_odds 78 [l0, l1, l2, l3, none, l5, l6, l7, l8] (.long x :: st) σ = den mX7_odds 80 [l0, l1, l2, l3, none, some (.long x), none, l7, l8] st σ) ∧
  (∀ (l1 l2 l3 l4 l5 l6 l7 l8 : Option Value) (x : Nat) (st : List Value) (σ : dS), den mX7_odds 80 [some (.ref x), l1, l2, l3, l4, l5, l6, l7, l8] st σ = den mX7_odds 81 [some (.ref x), l1, l2, l3, l4, l5, l6, l7, l8] (.ref x :: st) σ) ∧
  (∀ (l0 l1 l2 l3 l4 l5 l6 l8 : Option Value) (x : Int32) (st : List Value) (σ : dS), den mX7_odds 81 [l0, l1, l2, l3, l4, l5, l6, some (.int x), l8] st σ = den mX7_odds 83 [l0, l1, l2, l3, l4, l5, l6, some (.int x), l8] (.int x :: st) σ) ∧
  (∀ (l0 l1 l2 l3 l4 l5 l6 l7 l8 : Option Value) (a0 : Int32) (q : Nat) (σ : dS), den mX7_odds 83 [l0, l1, l2, l3, l4, l5, l6, l7, l8] [.int a0, .ref q] σ = if disO σ q 6 = true then ((dcall mX7_parentOf [.ref q, .int a0] σ).bind fun r => den mX7_odds 86 [l0, l1, l2, l3, l4, l5, l6, l7, l8] (r.1.toList ++ []) r.2) else none) ∧
  (∀ (l0 l1 l2 l3 l4 l5 l7 l8 : Option Value) (x : Int32) (st : List Value) (σ : dS), den mX7_odds 86 [l0, l1, l2, l3, l4, l5, none, l7, l8] (.int x :: st) σ = den mX7_odds 88 [l0, l1, l2, l3, l4, l5, none, some (.int x), l8] st σ) ∧
  (∀ (l0 l1 l2 l3 l4 l5 l6 l7 l8 : Option Value) (st : List Value) (σ : dS), den mX7_odds 88 [l0, l1, l2, l3, l4, l5, l6, l7, l8] st σ = den mX7_odds 27 [l0, l1, l2, l3, l4, l5, l6, l7, l8] st σ) ∧
  (∀ (l0 l1 l2 l4 l5 l6 l7 l8 : Option Value) (x : Int64) (st : List Value) (σ : dS), den mX7_odds 91 [l0, l1, l2, some (.long x), l4, l5, l6, l7, l8] st σ = den mX7_odds 92 [l0, l1, l2, some (.long x), l4, l5, l6, l7, l8] (.long x :: st) σ) ∧
  (∀ (l0 l1 l2 l3 l4 l6 l7 l8 : Option Value) (x : Int64) (st : List Value) (σ : dS), den mX7_odds 92 [l0, l1, l2, l3, l4, some (.long x), l6, l7, l8] st σ = den mX7_odds 94 [l0, l1, l2, l3, l4, some (.long x), l6, l7, l8] (.long x :: st) σ) ∧
  (∀ (l0 l1 l3 l4 l5 l6 l7 l8 : Option Value) (x : Int32) (st : List Value) (σ : dS), den mX7_odds 94 [l0, l1, some (.int x), l3, l4, l5, l6, l7, l8] st σ = den mX7_odds 95 [l0, l1, some (.int x), l3, l4, l5, l6, l7, l8] (.int x :: st) σ) ∧
  (∀ (l0 l1 l2 l3 l4 l5 l6 l7 l8 : Option Value) (a0 : Int64) (a1 : Int64) (a2 : Int32) (σ : dS), den mX7_odds 95 [l0, l1, l2, l3, l4, l5, l6, l7, l8] [.int a2, .long a1, .long a0] σ = (dcall mX7_lowest [.long a0, .long a1, .int a2] σ).bind fun r => den mX7_odds 98 [l0, l1, l2, l3, l4, l5, l6, l7, l8] (r.1.toList ++ []) r.2) ∧
  (∀ (l0 l1 l2 l3 l4 l5 l6 l7 l8 : Option Value) (v : Int64) (σ : dS), den mX7_odds 98 [l0, l1, l2, l3, l4, l5, l6, l7, l8] [.long v] σ = some (some (.long v), σ)) :=
  ⟨fun l0 l1 l2 l3 l4 l5 l6 l7 l8 x y st σ => dn_lmul eX7_odds dX7_odds_70,
  fun l0 l1 l3 l4 l5 l6 l7 l8 x y st σ => dn_lstore_n eX7_odds dX7_odds_71 rfl,
  fun l0 l1 l2 l3 l4 l6 l7 l8 x st σ => dn_lload eX7_odds dX7_odds_72 rfl,
  fun l0 l1 l2 l3 l4 l5 l6 l7 l8 st σ => dn_ldc2_w (w := 10) (p := 991) eX7_odds dX7_odds_74 (by decide +kernel) (by decide +kernel),
  fun l0 l1 l2 l3 l4 l5 l6 l7 l8 x y st σ => dn_lmul eX7_odds dX7_odds_77,
  fun l0 l1 l2 l3 l5 l6 l7 l8 x st σ => dn_lstore eX7_odds dX7_odds_78 rfl,
  fun l1 l2 l3 l4 l5 l6 l7 l8 x st σ => dn_aload_n eX7_odds dX7_odds_80 rfl,
  fun l0 l1 l2 l3 l4 l5 l6 l8 x st σ => dn_iload eX7_odds dX7_odds_81 rfl,
  fun l0 l1 l2 l3 l4 l5 l6 l7 l8 a0 q σ => rX7_odds_83 l0 l1 l2 l3 l4 l5 l6 l7 l8 a0 q σ,
  fun l0 l1 l2 l3 l4 l5 l7 l8 x st σ => dn_istore eX7_odds dX7_odds_86 rfl,
  fun l0 l1 l2 l3 l4 l5 l6 l7 l8 st σ => dn_goto eX7_odds dX7_odds_88 (by decide),
  fun l0 l1 l2 l4 l5 l6 l7 l8 x st σ => dn_lload_n eX7_odds dX7_odds_91 rfl,
  fun l0 l1 l2 l3 l4 l6 l7 l8 x st σ => dn_lload eX7_odds dX7_odds_92 rfl,
  fun l0 l1 l3 l4 l5 l6 l7 l8 x st σ => dn_iload_n eX7_odds dX7_odds_94 rfl,
  fun l0 l1 l2 l3 l4 l5 l6 l7 l8 a0 a1 a2 σ => dn_callS (e := (1, 159, 1108)) (as := [.long a0, .long a1, .int a2]) (rest := []) eX7_odds dX7_odds_95 (by decide +kernel) (Or.inl rfl) (by decide +kernel) rfl (dcat_le rfl) (dlen_le rfl) rfl,
  fun l0 l1 l2 l3 l4 l5 l6 l7 l8 v σ => dn_lreturn eX7_odds dX7_odds_98 rfl⟩
theorem CX7_isRead (a0 : Nat) (a1 : Int32) (a2 : Int32) (σ : dS) : dcall mX7_isRead [.ref a0, .int a1, .int a2] σ = den mX7_isRead 0 [some (.ref a0), some (.int a1), some (.int a2), none] [] σ := dcall_den (by decide) rfl
theorem rX7_isRead_3 (l0 l1 l2 l3 : Option Value) (a0 : Int32) (a1 : Int32) (q : Nat) (σ : dS) : den mX7_isRead 3 [l0, l1, l2, l3] [.int a1, .int a0, .ref q] σ = if disO σ q 6 = true then ((dcall mX7_of [.ref q, .int a0, .int a1] σ).bind fun r => den mX7_isRead 6 [l0, l1, l2, l3] (r.1.toList ++ []) r.2) else none := by
  by_cases h : disO σ q 6 = true
  · rw [if_pos h]; exact dn_callV (e := (0, 120, 947)) (as := [.int a0, .int a1]) (rest := []) eX7_isRead dX7_isRead_3 (by decide +kernel) rfl (by decide +kernel) rfl (dcat_le rfl) (dlen_le rfl) rfl h
  · rw [if_neg h]; exact den_noV (e := (0, 120, 947)) (as := [.int a0, .int a1]) (rest := []) eX7_isRead dX7_isRead_3 (by decide +kernel) rfl rfl rfl h
theorem rX7_isRead_15 (l0 l1 l2 l3 : Option Value) (a0 : Int32) (a1 : Int32) (q : Nat) (σ : dS) : den mX7_isRead 15 [l0, l1, l2, l3] [.int a1, .int a0, .ref q] σ = if disO σ q 6 = true then ((dcall mX7_of [.ref q, .int a0, .int a1] σ).bind fun r => den mX7_isRead 18 [l0, l1, l2, l3] (r.1.toList ++ []) r.2) else none := by
  by_cases h : disO σ q 6 = true
  · rw [if_pos h]; exact dn_callV (e := (0, 120, 947)) (as := [.int a0, .int a1]) (rest := []) eX7_isRead dX7_isRead_15 (by decide +kernel) rfl (by decide +kernel) rfl (dcat_le rfl) (dlen_le rfl) rfl h
  · rw [if_neg h]; exact den_noV (e := (0, 120, 947)) (as := [.int a0, .int a1]) (rest := []) eX7_isRead dX7_isRead_15 (by decide +kernel) rfl rfl rfl h
theorem rX7_isRead_37 (l0 l1 l2 l3 : Option Value) (a0 : Int32) (a1 : Int32) (q : Nat) (σ : dS) : den mX7_isRead 37 [l0, l1, l2, l3] [.int a1, .int a0, .ref q] σ = if disO σ q 6 = true then ((dcall mX7_of [.ref q, .int a0, .int a1] σ).bind fun r => den mX7_isRead 40 [l0, l1, l2, l3] (r.1.toList ++ []) r.2) else none := by
  by_cases h : disO σ q 6 = true
  · rw [if_pos h]; exact dn_callV (e := (0, 120, 947)) (as := [.int a0, .int a1]) (rest := []) eX7_isRead dX7_isRead_37 (by decide +kernel) rfl (by decide +kernel) rfl (dcat_le rfl) (dlen_le rfl) rfl h
  · rw [if_neg h]; exact den_noV (e := (0, 120, 947)) (as := [.int a0, .int a1]) (rest := []) eX7_isRead dX7_isRead_37 (by decide +kernel) rfl rfl rfl h
theorem rX7_isRead_47 (l0 l1 l2 l3 : Option Value) (a0 : Int32) (a1 : Int32) (q : Nat) (σ : dS) : den mX7_isRead 47 [l0, l1, l2, l3] [.int a1, .int a0, .ref q] σ = if disO σ q 6 = true then ((dcall mX7_of [.ref q, .int a0, .int a1] σ).bind fun r => den mX7_isRead 50 [l0, l1, l2, l3] (r.1.toList ++ []) r.2) else none := by
  by_cases h : disO σ q 6 = true
  · rw [if_pos h]; exact dn_callV (e := (0, 120, 947)) (as := [.int a0, .int a1]) (rest := []) eX7_isRead dX7_isRead_47 (by decide +kernel) rfl (by decide +kernel) rfl (dcat_le rfl) (dlen_le rfl) rfl h
  · rw [if_neg h]; exact den_noV (e := (0, 120, 947)) (as := [.int a0, .int a1]) (rest := []) eX7_isRead dX7_isRead_47 (by decide +kernel) rfl rfl rfl h
set_option maxRecDepth 20000 in
theorem SX7_isRead : (∀ (l1 l2 l3 : Option Value) (x : Nat) (st : List Value) (σ : dS), den mX7_isRead 0 [some (.ref x), l1, l2, l3] st σ = den mX7_isRead 1 [some (.ref x), l1, l2, l3] (.ref x :: st) σ) ∧
  (∀ (l0 l2 l3 : Option Value) (x : Int32) (st : List Value) (σ : dS), den mX7_isRead 1 [l0, some (.int x), l2, l3] st σ = den mX7_isRead 2 [l0, some (.int x), l2, l3] (.int x :: st) σ) ∧
  (∀ (l0 l1 l2 l3 : Option Value) (st : List Value) (σ : dS), den mX7_isRead 2 [l0, l1, l2, l3] st σ = den mX7_isRead 3 [l0, l1, l2, l3] (.int (nI 0) :: st) σ) ∧
  (∀ (l0 l1 l2 l3 : Option Value) (a0 : Int32) (a1 : Int32) (q : Nat) (σ : dS), den mX7_isRead 3 [l0, l1, l2, l3] [.int a1, .int a0, .ref q] σ = if disO σ q 6 = true then ((dcall mX7_of [.ref q, .int a0, .int a1] σ).bind fun r => den mX7_isRead 6 [l0, l1, l2, l3] (r.1.toList ++ []) r.2) else none) ∧
  (∀ (l0 l1 l3 : Option Value) (x : Int32) (y : Int32) (st : List Value) (σ : dS), den mX7_isRead 6 [l0, l1, some (.int y), l3] (.int x :: st) σ = den mX7_isRead 7 [l0, l1, some (.int y), some (.int x)] st σ) ∧
  (∀ (l0 l1 l2 : Option Value) (x : Int32) (st : List Value) (σ : dS), den mX7_isRead 7 [l0, l1, l2, some (.int x)] st σ = den mX7_isRead 8 [l0, l1, l2, some (.int x)] (.int x :: st) σ) ∧
  (∀ (l0 l1 l2 l3 : Option Value) (st : List Value) (σ : dS), den mX7_isRead 8 [l0, l1, l2, l3] st σ = den mX7_isRead 9 [l0, l1, l2, l3] (.int (nI 5) :: st) σ) ∧
  (∀ (l0 l1 l2 l3 : Option Value) (x y : Int32) (st : List Value) (σ : dS), den mX7_isRead 9 [l0, l1, l2, l3] (.int y :: .int x :: st) σ = if x = y then den mX7_isRead 12 [l0, l1, l2, l3] st σ else den mX7_isRead 30 [l0, l1, l2, l3] st σ) ∧
  (∀ (l1 l2 l3 : Option Value) (x : Nat) (st : List Value) (σ : dS), den mX7_isRead 12 [some (.ref x), l1, l2, l3] st σ = den mX7_isRead 13 [some (.ref x), l1, l2, l3] (.ref x :: st) σ) ∧
  (∀ (l0 l2 l3 : Option Value) (x : Int32) (st : List Value) (σ : dS), den mX7_isRead 13 [l0, some (.int x), l2, l3] st σ = den mX7_isRead 14 [l0, some (.int x), l2, l3] (.int x :: st) σ) ∧
  (∀ (l0 l1 l2 l3 : Option Value) (st : List Value) (σ : dS), den mX7_isRead 14 [l0, l1, l2, l3] st σ = den mX7_isRead 15 [l0, l1, l2, l3] (.int (nI 1) :: st) σ) ∧
  (∀ (l0 l1 l2 l3 : Option Value) (a0 : Int32) (a1 : Int32) (q : Nat) (σ : dS), den mX7_isRead 15 [l0, l1, l2, l3] [.int a1, .int a0, .ref q] σ = if disO σ q 6 = true then ((dcall mX7_of [.ref q, .int a0, .int a1] σ).bind fun r => den mX7_isRead 18 [l0, l1, l2, l3] (r.1.toList ++ []) r.2) else none) ∧
  (∀ (l0 l1 l3 : Option Value) (x : Int32) (st : List Value) (σ : dS), den mX7_isRead 18 [l0, l1, some (.int x), l3] st σ = den mX7_isRead 19 [l0, l1, some (.int x), l3] (.int x :: st) σ) ∧
  (∀ (l0 l1 l2 l3 : Option Value) (x y : Int32) (st : List Value) (σ : dS), den mX7_isRead 19 [l0, l1, l2, l3] (.int y :: .int x :: st) σ = if x = y then den mX7_isRead 22 [l0, l1, l2, l3] st σ else den mX7_isRead 26 [l0, l1, l2, l3] st σ) ∧
  (∀ (l0 l1 l2 l3 : Option Value) (st : List Value) (σ : dS), den mX7_isRead 22 [l0, l1, l2, l3] st σ = den mX7_isRead 23 [l0, l1, l2, l3] (.int (nI 1) :: st) σ) ∧
  (∀ (l0 l1 l2 l3 : Option Value) (st : List Value) (σ : dS), den mX7_isRead 23 [l0, l1, l2, l3] st σ = den mX7_isRead 59 [l0, l1, l2, l3] st σ) ∧
  (∀ (l0 l1 l2 l3 : Option Value) (st : List Value) (σ : dS), den mX7_isRead 26 [l0, l1, l2, l3] st σ = den mX7_isRead 27 [l0, l1, l2, l3] (.int (nI 0) :: st) σ) ∧
  (∀ (l0 l1 l2 l3 : Option Value) (st : List Value) (σ : dS), den mX7_isRead 27 [l0, l1, l2, l3] st σ = den mX7_isRead 59 [l0, l1, l2, l3] st σ) ∧
  (∀ (l0 l1 l2 : Option Value) (x : Int32) (st : List Value) (σ : dS), den mX7_isRead 30 [l0, l1, l2, some (.int x)] st σ = den mX7_isRead 31 [l0, l1, l2, some (.int x)] (.int x :: st) σ) ∧
  (∀ (l0 l1 l2 l3 : Option Value) (x : Int32) (st : List Value) (σ : dS), den mX7_isRead 31 [l0, l1, l2, l3] (.int x :: st) σ = if x = 0 then den mX7_isRead 58 [l0, l1, l2, l3] st σ else den mX7_isRead 34 [l0, l1, l2, l3] st σ) ∧
  (∀ (l1 l2 l3 : Option Value) (x : Nat) (st : List Value) (σ : dS), den mX7_isRead 34 [some (.ref x), l1, l2, l3] st σ = den mX7_isRead 35 [some (.ref x), l1, l2, l3] (.ref x :: st) σ) ∧
  (∀ (l0 l2 l3 : Option Value) (x : Int32) (st : List Value) (σ : dS), den mX7_isRead 35 [l0, some (.int x), l2, l3] st σ = den mX7_isRead 36 [l0, some (.int x), l2, l3] (.int x :: st) σ) ∧
  (∀ (l0 l1 l2 l3 : Option Value) (st : List Value) (σ : dS), den mX7_isRead 36 [l0, l1, l2, l3] st σ = den mX7_isRead 37 [l0, l1, l2, l3] (.int (nI 2) :: st) σ) ∧
  (∀ (l0 l1 l2 l3 : Option Value) (a0 : Int32) (a1 : Int32) (q : Nat) (σ : dS), den mX7_isRead 37 [l0, l1, l2, l3] [.int a1, .int a0, .ref q] σ = if disO σ q 6 = true then ((dcall mX7_of [.ref q, .int a0, .int a1] σ).bind fun r => den mX7_isRead 40 [l0, l1, l2, l3] (r.1.toList ++ []) r.2) else none) ∧
  (∀ (l0 l1 l3 : Option Value) (x : Int32) (st : List Value) (σ : dS), den mX7_isRead 40 [l0, l1, some (.int x), l3] st σ = den mX7_isRead 41 [l0, l1, some (.int x), l3] (.int x :: st) σ) ∧
  (∀ (l0 l1 l2 l3 : Option Value) (x y : Int32) (st : List Value) (σ : dS), den mX7_isRead 41 [l0, l1, l2, l3] (.int y :: .int x :: st) σ = if x = y then den mX7_isRead 54 [l0, l1, l2, l3] st σ else den mX7_isRead 44 [l0, l1, l2, l3] st σ) ∧
  (∀ (l1 l2 l3 : Option Value) (x : Nat) (st : List Value) (σ : dS), den mX7_isRead 44 [some (.ref x), l1, l2, l3] st σ = den mX7_isRead 45 [some (.ref x), l1, l2, l3] (.ref x :: st) σ) ∧
  (∀ (l0 l2 l3 : Option Value) (x : Int32) (st : List Value) (σ : dS), den mX7_isRead 45 [l0, some (.int x), l2, l3] st σ = den mX7_isRead 46 [l0, some (.int x), l2, l3] (.int x :: st) σ) ∧
  (∀ (l0 l1 l2 l3 : Option Value) (st : List Value) (σ : dS), den mX7_isRead 46 [l0, l1, l2, l3] st σ = den mX7_isRead 47 [l0, l1, l2, l3] (.int (nI 3) :: st) σ) ∧
  (∀ (l0 l1 l2 l3 : Option Value) (a0 : Int32) (a1 : Int32) (q : Nat) (σ : dS), den mX7_isRead 47 [l0, l1, l2, l3] [.int a1, .int a0, .ref q] σ = if disO σ q 6 = true then ((dcall mX7_of [.ref q, .int a0, .int a1] σ).bind fun r => den mX7_isRead 50 [l0, l1, l2, l3] (r.1.toList ++ []) r.2) else none) ∧
  (∀ (l0 l1 l3 : Option Value) (x : Int32) (st : List Value) (σ : dS), den mX7_isRead 50 [l0, l1, some (.int x), l3] st σ = den mX7_isRead 51 [l0, l1, some (.int x), l3] (.int x :: st) σ) ∧
  (∀ (l0 l1 l2 l3 : Option Value) (x y : Int32) (st : List Value) (σ : dS), den mX7_isRead 51 [l0, l1, l2, l3] (.int y :: .int x :: st) σ = if x = y then den mX7_isRead 54 [l0, l1, l2, l3] st σ else den mX7_isRead 58 [l0, l1, l2, l3] st σ) ∧
  (∀ (l0 l1 l2 l3 : Option Value) (st : List Value) (σ : dS), den mX7_isRead 54 [l0, l1, l2, l3] st σ = den mX7_isRead 55 [l0, l1, l2, l3] (.int (nI 1) :: st) σ) ∧
  (∀ (l0 l1 l2 l3 : Option Value) (st : List Value) (σ : dS), den mX7_isRead 55 [l0, l1, l2, l3] st σ = den mX7_isRead 59 [l0, l1, l2, l3] st σ) ∧
  (∀ (l0 l1 l2 l3 : Option Value) (st : List Value) (σ : dS), den mX7_isRead 58 [l0, l1, l2, l3] st σ = den mX7_isRead 59 [l0, l1, l2, l3] (.int (nI 0) :: st) σ) ∧
  (∀ (l0 l1 l2 l3 : Option Value) (v : Int32) (σ : dS), den mX7_isRead 59 [l0, l1, l2, l3] [.int v] σ = if v = 0 ∨ v = 1 then some (some (.int v), σ) else none) :=
  ⟨fun l1 l2 l3 x st σ => dn_aload_n eX7_isRead dX7_isRead_0 rfl,
  fun l0 l2 l3 x st σ => dn_iload_n eX7_isRead dX7_isRead_1 rfl,
  fun l0 l1 l2 l3 st σ => dn_iconst eX7_isRead dX7_isRead_2 kc_iconst_0,
  fun l0 l1 l2 l3 a0 a1 q σ => rX7_isRead_3 l0 l1 l2 l3 a0 a1 q σ,
  fun l0 l1 l3 x y st σ => dn_istore_n eX7_isRead dX7_isRead_6 rfl,
  fun l0 l1 l2 x st σ => dn_iload_n eX7_isRead dX7_isRead_7 rfl,
  fun l0 l1 l2 l3 st σ => dn_iconst eX7_isRead dX7_isRead_8 kc_iconst_5,
  fun l0 l1 l2 l3 x y st σ => dn_icmp_ne eX7_isRead dX7_isRead_9 (by decide),
  fun l1 l2 l3 x st σ => dn_aload_n eX7_isRead dX7_isRead_12 rfl,
  fun l0 l2 l3 x st σ => dn_iload_n eX7_isRead dX7_isRead_13 rfl,
  fun l0 l1 l2 l3 st σ => dn_iconst eX7_isRead dX7_isRead_14 kc_iconst_1,
  fun l0 l1 l2 l3 a0 a1 q σ => rX7_isRead_15 l0 l1 l2 l3 a0 a1 q σ,
  fun l0 l1 l3 x st σ => dn_iload_n eX7_isRead dX7_isRead_18 rfl,
  fun l0 l1 l2 l3 x y st σ => dn_icmp_ne eX7_isRead dX7_isRead_19 (by decide),
  fun l0 l1 l2 l3 st σ => dn_iconst eX7_isRead dX7_isRead_22 kc_iconst_1,
  fun l0 l1 l2 l3 st σ => dn_goto eX7_isRead dX7_isRead_23 (by decide),
  fun l0 l1 l2 l3 st σ => dn_iconst eX7_isRead dX7_isRead_26 kc_iconst_0,
  fun l0 l1 l2 l3 st σ => dn_goto eX7_isRead dX7_isRead_27 (by decide),
  fun l0 l1 l2 x st σ => dn_iload_n eX7_isRead dX7_isRead_30 rfl,
  fun l0 l1 l2 l3 x st σ => dn_if_eq eX7_isRead dX7_isRead_31 (by decide),
  fun l1 l2 l3 x st σ => dn_aload_n eX7_isRead dX7_isRead_34 rfl,
  fun l0 l2 l3 x st σ => dn_iload_n eX7_isRead dX7_isRead_35 rfl,
  fun l0 l1 l2 l3 st σ => dn_iconst eX7_isRead dX7_isRead_36 kc_iconst_2,
  fun l0 l1 l2 l3 a0 a1 q σ => rX7_isRead_37 l0 l1 l2 l3 a0 a1 q σ,
  fun l0 l1 l3 x st σ => dn_iload_n eX7_isRead dX7_isRead_40 rfl,
  fun l0 l1 l2 l3 x y st σ => dn_icmp_eq eX7_isRead dX7_isRead_41 (by decide),
  fun l1 l2 l3 x st σ => dn_aload_n eX7_isRead dX7_isRead_44 rfl,
  fun l0 l2 l3 x st σ => dn_iload_n eX7_isRead dX7_isRead_45 rfl,
  fun l0 l1 l2 l3 st σ => dn_iconst eX7_isRead dX7_isRead_46 kc_iconst_3,
  fun l0 l1 l2 l3 a0 a1 q σ => rX7_isRead_47 l0 l1 l2 l3 a0 a1 q σ,
  fun l0 l1 l3 x st σ => dn_iload_n eX7_isRead dX7_isRead_50 rfl,
  fun l0 l1 l2 l3 x y st σ => dn_icmp_ne eX7_isRead dX7_isRead_51 (by decide),
  fun l0 l1 l2 l3 st σ => dn_iconst eX7_isRead dX7_isRead_54 kc_iconst_1,
  fun l0 l1 l2 l3 st σ => dn_goto eX7_isRead dX7_isRead_55 (by decide),
  fun l0 l1 l2 l3 st σ => dn_iconst eX7_isRead dX7_isRead_58 kc_iconst_0,
  fun l0 l1 l2 l3 v σ => dn_zreturn eX7_isRead dX7_isRead_59 rfl⟩
theorem CX7_isLiveBy (a0 : Nat) (a1 : Int32) (a2 : Int32) (σ : dS) : dcall mX7_isLiveBy [.ref a0, .int a1, .int a2] σ = den mX7_isLiveBy 0 [some (.ref a0), some (.int a1), some (.int a2), none, none] [] σ := dcall_den (by decide) rfl
theorem rX7_isLiveBy_4 (l0 l1 l2 l3 l4 : Option Value) (a0 : Int32) (a1 : Int32) (b0 : Nat) (q : Nat) (σ : dS) : den mX7_isLiveBy 4 [l0, l1, l2, l3, l4] [.int a1, .int a0, .ref q, .ref b0] σ = if disO σ q 6 = true then ((dcall mX7_of [.ref q, .int a0, .int a1] σ).bind fun r => den mX7_isLiveBy 7 [l0, l1, l2, l3, l4] (r.1.toList ++ [.ref b0]) r.2) else none := by
  by_cases h : disO σ q 6 = true
  · rw [if_pos h]; exact dn_callV (e := (0, 120, 947)) (as := [.int a0, .int a1]) (rest := [.ref b0]) eX7_isLiveBy dX7_isLiveBy_4 (by decide +kernel) rfl (by decide +kernel) rfl (dcat_le rfl) (dlen_le rfl) rfl h
  · rw [if_neg h]; exact den_noV (e := (0, 120, 947)) (as := [.int a0, .int a1]) (rest := [.ref b0]) eX7_isLiveBy dX7_isLiveBy_4 (by decide +kernel) rfl rfl rfl h
theorem rX7_isLiveBy_8 (l0 l1 l2 l3 l4 : Option Value) (a0 : Int32) (a1 : Int32) (q : Nat) (σ : dS) : den mX7_isLiveBy 8 [l0, l1, l2, l3, l4] [.int a1, .int a0, .ref q] σ = if disO σ q 6 = true then ((dcall mX7_holdsBy [.ref q, .int a0, .int a1] σ).bind fun r => den mX7_isLiveBy 11 [l0, l1, l2, l3, l4] (r.1.toList ++ []) r.2) else none := by
  by_cases h : disO σ q 6 = true
  · rw [if_pos h]; exact dn_callV (e := (0, 143, 1032)) (as := [.int a0, .int a1]) (rest := []) eX7_isLiveBy dX7_isLiveBy_8 (by decide +kernel) rfl (by decide +kernel) rfl (dcat_le rfl) (dlen_le rfl) rfl h
  · rw [if_neg h]; exact den_noV (e := (0, 143, 1032)) (as := [.int a0, .int a1]) (rest := []) eX7_isLiveBy dX7_isLiveBy_8 (by decide +kernel) rfl rfl rfl h
theorem rX7_isLiveBy_19 (l0 l1 l2 l3 l4 : Option Value) (a0 : Int32) (a1 : Int32) (q : Nat) (σ : dS) : den mX7_isLiveBy 19 [l0, l1, l2, l3, l4] [.int a1, .int a0, .ref q] σ = if disO σ q 6 = true then ((dcall mX7_of [.ref q, .int a0, .int a1] σ).bind fun r => den mX7_isLiveBy 22 [l0, l1, l2, l3, l4] (r.1.toList ++ []) r.2) else none := by
  by_cases h : disO σ q 6 = true
  · rw [if_pos h]; exact dn_callV (e := (0, 120, 947)) (as := [.int a0, .int a1]) (rest := []) eX7_isLiveBy dX7_isLiveBy_19 (by decide +kernel) rfl (by decide +kernel) rfl (dcat_le rfl) (dlen_le rfl) rfl h
  · rw [if_neg h]; exact den_noV (e := (0, 120, 947)) (as := [.int a0, .int a1]) (rest := []) eX7_isLiveBy dX7_isLiveBy_19 (by decide +kernel) rfl rfl rfl h
theorem hX7_isLiveBy_28 (l0 l1 l2 l3 : Option Value) (x : Int32) (st : List Value) (σ : dS) : den mX7_isLiveBy 28 [l0, l1, l2, l3, some (.int x)] st σ = den mX7_isLiveBy 30 [l0, l1, l2, l3, some (.int x)] (.int x :: st) σ := dn_iload eX7_isLiveBy dX7_isLiveBy_28 rfl
theorem rX7_isLiveBy_45 (l0 l1 l2 l3 l4 : Option Value) (a0 : Int32) (a1 : Int32) (b0 : Nat) (q : Nat) (σ : dS) : den mX7_isLiveBy 45 [l0, l1, l2, l3, l4] [.int a1, .int a0, .ref q, .ref b0] σ = if disO σ q 6 = true then ((dcall mX7_of [.ref q, .int a0, .int a1] σ).bind fun r => den mX7_isLiveBy 48 [l0, l1, l2, l3, l4] (r.1.toList ++ [.ref b0]) r.2) else none := by
  by_cases h : disO σ q 6 = true
  · rw [if_pos h]; exact dn_callV (e := (0, 120, 947)) (as := [.int a0, .int a1]) (rest := [.ref b0]) eX7_isLiveBy dX7_isLiveBy_45 (by decide +kernel) rfl (by decide +kernel) rfl (dcat_le rfl) (dlen_le rfl) rfl h
  · rw [if_neg h]; exact den_noV (e := (0, 120, 947)) (as := [.int a0, .int a1]) (rest := [.ref b0]) eX7_isLiveBy dX7_isLiveBy_45 (by decide +kernel) rfl rfl rfl h
theorem rX7_isLiveBy_49 (l0 l1 l2 l3 l4 : Option Value) (a0 : Int32) (a1 : Int32) (q : Nat) (σ : dS) : den mX7_isLiveBy 49 [l0, l1, l2, l3, l4] [.int a1, .int a0, .ref q] σ = if disO σ q 6 = true then ((dcall mX7_holdsBy [.ref q, .int a0, .int a1] σ).bind fun r => den mX7_isLiveBy 52 [l0, l1, l2, l3, l4] (r.1.toList ++ []) r.2) else none := by
  by_cases h : disO σ q 6 = true
  · rw [if_pos h]; exact dn_callV (e := (0, 143, 1032)) (as := [.int a0, .int a1]) (rest := []) eX7_isLiveBy dX7_isLiveBy_49 (by decide +kernel) rfl (by decide +kernel) rfl (dcat_le rfl) (dlen_le rfl) rfl h
  · rw [if_neg h]; exact den_noV (e := (0, 143, 1032)) (as := [.int a0, .int a1]) (rest := []) eX7_isLiveBy dX7_isLiveBy_49 (by decide +kernel) rfl rfl rfl h
theorem rX7_isLiveBy_59 (l0 l1 l2 l3 l4 : Option Value) (a0 : Int32) (a1 : Int32) (q : Nat) (σ : dS) : den mX7_isLiveBy 59 [l0, l1, l2, l3, l4] [.int a1, .int a0, .ref q] σ = if disO σ q 6 = true then ((dcall mX7_isRead [.ref q, .int a0, .int a1] σ).bind fun r => den mX7_isLiveBy 62 [l0, l1, l2, l3, l4] (r.1.toList ++ []) r.2) else none := by
  by_cases h : disO σ q 6 = true
  · rw [if_pos h]; exact dn_callV (e := (0, 162, 1127)) (as := [.int a0, .int a1]) (rest := []) eX7_isLiveBy dX7_isLiveBy_59 (by decide +kernel) rfl (by decide +kernel) rfl (dcat_le rfl) (dlen_le rfl) rfl h
  · rw [if_neg h]; exact den_noV (e := (0, 162, 1127)) (as := [.int a0, .int a1]) (rest := []) eX7_isLiveBy dX7_isLiveBy_59 (by decide +kernel) rfl rfl rfl h
theorem rX7_isLiveBy_71 (l0 l1 l2 l3 l4 : Option Value) (a0 : Int32) (a1 : Int32) (q : Nat) (σ : dS) : den mX7_isLiveBy 71 [l0, l1, l2, l3, l4] [.int a1, .int a0, .ref q] σ = if disO σ q 6 = true then ((dcall mX7_of [.ref q, .int a0, .int a1] σ).bind fun r => den mX7_isLiveBy 74 [l0, l1, l2, l3, l4] (r.1.toList ++ []) r.2) else none := by
  by_cases h : disO σ q 6 = true
  · rw [if_pos h]; exact dn_callV (e := (0, 120, 947)) (as := [.int a0, .int a1]) (rest := []) eX7_isLiveBy dX7_isLiveBy_71 (by decide +kernel) rfl (by decide +kernel) rfl (dcat_le rfl) (dlen_le rfl) rfl h
  · rw [if_neg h]; exact den_noV (e := (0, 120, 947)) (as := [.int a0, .int a1]) (rest := []) eX7_isLiveBy dX7_isLiveBy_71 (by decide +kernel) rfl rfl rfl h
theorem rX7_isLiveBy_82 (l0 l1 l2 l3 l4 : Option Value) (a0 : Int32) (a1 : Int32) (q : Nat) (σ : dS) : den mX7_isLiveBy 82 [l0, l1, l2, l3, l4] [.int a1, .int a0, .ref q] σ = if disO σ q 6 = true then ((dcall mX7_of [.ref q, .int a0, .int a1] σ).bind fun r => den mX7_isLiveBy 85 [l0, l1, l2, l3, l4] (r.1.toList ++ []) r.2) else none := by
  by_cases h : disO σ q 6 = true
  · rw [if_pos h]; exact dn_callV (e := (0, 120, 947)) (as := [.int a0, .int a1]) (rest := []) eX7_isLiveBy dX7_isLiveBy_82 (by decide +kernel) rfl (by decide +kernel) rfl (dcat_le rfl) (dlen_le rfl) rfl h
  · rw [if_neg h]; exact den_noV (e := (0, 120, 947)) (as := [.int a0, .int a1]) (rest := []) eX7_isLiveBy dX7_isLiveBy_82 (by decide +kernel) rfl rfl rfl h
set_option maxRecDepth 20000 in
theorem SX7_isLiveBy_0 : (∀ (l1 l2 l3 l4 : Option Value) (x : Nat) (st : List Value) (σ : dS), den mX7_isLiveBy 0 [some (.ref x), l1, l2, l3, l4] st σ = den mX7_isLiveBy 1 [some (.ref x), l1, l2, l3, l4] (.ref x :: st) σ) ∧
  (∀ (l1 l2 l3 l4 : Option Value) (x : Nat) (st : List Value) (σ : dS), den mX7_isLiveBy 1 [some (.ref x), l1, l2, l3, l4] st σ = den mX7_isLiveBy 2 [some (.ref x), l1, l2, l3, l4] (.ref x :: st) σ) ∧
  (∀ (l0 l2 l3 l4 : Option Value) (x : Int32) (st : List Value) (σ : dS), den mX7_isLiveBy 2 [l0, some (.int x), l2, l3, l4] st σ = den mX7_isLiveBy 3 [l0, some (.int x), l2, l3, l4] (.int x :: st) σ) ∧
  (∀ (l0 l1 l2 l3 l4 : Option Value) (st : List Value) (σ : dS), den mX7_isLiveBy 3 [l0, l1, l2, l3, l4] st σ = den mX7_isLiveBy 4 [l0, l1, l2, l3, l4] (.int (nI 4) :: st) σ) ∧
  (∀ (l0 l1 l2 l3 l4 : Option Value) (a0 : Int32) (a1 : Int32) (b0 : Nat) (q : Nat) (σ : dS), den mX7_isLiveBy 4 [l0, l1, l2, l3, l4] [.int a1, .int a0, .ref q, .ref b0] σ = if disO σ q 6 = true then ((dcall mX7_of [.ref q, .int a0, .int a1] σ).bind fun r => den mX7_isLiveBy 7 [l0, l1, l2, l3, l4] (r.1.toList ++ [.ref b0]) r.2) else none) ∧
  (∀ (l0 l1 l3 l4 : Option Value) (x : Int32) (st : List Value) (σ : dS), den mX7_isLiveBy 7 [l0, l1, some (.int x), l3, l4] st σ = den mX7_isLiveBy 8 [l0, l1, some (.int x), l3, l4] (.int x :: st) σ) ∧
  (∀ (l0 l1 l2 l3 l4 : Option Value) (a0 : Int32) (a1 : Int32) (q : Nat) (σ : dS), den mX7_isLiveBy 8 [l0, l1, l2, l3, l4] [.int a1, .int a0, .ref q] σ = if disO σ q 6 = true then ((dcall mX7_holdsBy [.ref q, .int a0, .int a1] σ).bind fun r => den mX7_isLiveBy 11 [l0, l1, l2, l3, l4] (r.1.toList ++ []) r.2) else none) ∧
  (∀ (l0 l1 l2 l3 l4 : Option Value) (x : Int32) (st : List Value) (σ : dS), den mX7_isLiveBy 11 [l0, l1, l2, l3, l4] (.int x :: st) σ = if x = 0 then den mX7_isLiveBy 14 [l0, l1, l2, l3, l4] st σ else den mX7_isLiveBy 16 [l0, l1, l2, l3, l4] st σ) ∧
  (∀ (l0 l1 l2 l3 l4 : Option Value) (st : List Value) (σ : dS), den mX7_isLiveBy 14 [l0, l1, l2, l3, l4] st σ = den mX7_isLiveBy 15 [l0, l1, l2, l3, l4] (.int (nI 0) :: st) σ) ∧
  (∀ (l0 l1 l2 l3 l4 : Option Value) (v : Int32) (σ : dS), den mX7_isLiveBy 15 [l0, l1, l2, l3, l4] [.int v] σ = if v = 0 ∨ v = 1 then some (some (.int v), σ) else none) ∧
  (∀ (l1 l2 l3 l4 : Option Value) (x : Nat) (st : List Value) (σ : dS), den mX7_isLiveBy 16 [some (.ref x), l1, l2, l3, l4] st σ = den mX7_isLiveBy 17 [some (.ref x), l1, l2, l3, l4] (.ref x :: st) σ) ∧
  (∀ (l0 l2 l3 l4 : Option Value) (x : Int32) (st : List Value) (σ : dS), den mX7_isLiveBy 17 [l0, some (.int x), l2, l3, l4] st σ = den mX7_isLiveBy 18 [l0, some (.int x), l2, l3, l4] (.int x :: st) σ) ∧
  (∀ (l0 l1 l2 l3 l4 : Option Value) (st : List Value) (σ : dS), den mX7_isLiveBy 18 [l0, l1, l2, l3, l4] st σ = den mX7_isLiveBy 19 [l0, l1, l2, l3, l4] (.int (nI 1) :: st) σ) ∧
  (∀ (l0 l1 l2 l3 l4 : Option Value) (a0 : Int32) (a1 : Int32) (q : Nat) (σ : dS), den mX7_isLiveBy 19 [l0, l1, l2, l3, l4] [.int a1, .int a0, .ref q] σ = if disO σ q 6 = true then ((dcall mX7_of [.ref q, .int a0, .int a1] σ).bind fun r => den mX7_isLiveBy 22 [l0, l1, l2, l3, l4] (r.1.toList ++ []) r.2) else none) ∧
  (∀ (l0 l1 l3 l4 : Option Value) (x : Int32) (y : Int32) (st : List Value) (σ : dS), den mX7_isLiveBy 22 [l0, l1, some (.int y), l3, l4] (.int x :: st) σ = den mX7_isLiveBy 23 [l0, l1, some (.int y), some (.int x), l4] st σ) ∧
  (∀ (l0 l2 l3 l4 : Option Value) (x : Int32) (st : List Value) (σ : dS), den mX7_isLiveBy 23 [l0, some (.int x), l2, l3, l4] st σ = den mX7_isLiveBy 24 [l0, some (.int x), l2, l3, l4] (.int x :: st) σ) ∧
  (∀ (l0 l1 l2 l3 l4 : Option Value) (st : List Value) (σ : dS), den mX7_isLiveBy 24 [l0, l1, l2, l3, l4] st σ = den mX7_isLiveBy 25 [l0, l1, l2, l3, l4] (.int (nI 1) :: st) σ) ∧
  (∀ (l0 l1 l2 l3 l4 : Option Value) (x y : Int32) (st : List Value) (σ : dS), den mX7_isLiveBy 25 [l0, l1, l2, l3, l4] (.int y :: .int x :: st) σ = den mX7_isLiveBy 26 [l0, l1, l2, l3, l4] (.int (x + y) :: st) σ) ∧
  (∀ (l0 l1 l2 l4 : Option Value) (x : Int32) (y : Int32) (st : List Value) (σ : dS), den mX7_isLiveBy 26 [l0, l1, l2, some (.int y), l4] (.int x :: st) σ = den mX7_isLiveBy 28 [l0, l1, l2, some (.int y), some (.int x)] st σ) ∧
  (∀ (l1 l2 l3 l4 : Option Value) (x : Nat) (st : List Value) (σ : dS), den mX7_isLiveBy 30 [some (.ref x), l1, l2, l3, l4] st σ = den mX7_isLiveBy 31 [some (.ref x), l1, l2, l3, l4] (.ref x :: st) σ) ∧
  (∀ (l0 l1 l2 l3 l4 : Option Value) (q : Nat) (st : List Value) (σ : dS), den mX7_isLiveBy 31 [l0, l1, l2, l3, l4] (.ref q :: st) σ = (dget σ q 6 0).bind fun v => den mX7_isLiveBy 34 [l0, l1, l2, l3, l4] (v :: st) σ) ∧
  (∀ (l0 l1 l2 l3 l4 : Option Value) (st : List Value) (σ : dS), den mX7_isLiveBy 34 [l0, l1, l2, l3, l4] st σ = den mX7_isLiveBy 36 [l0, l1, l2, l3, l4] (.int (nI 120) :: st) σ) ∧
  (∀ (l0 l1 l2 l3 l4 : Option Value) (q : Nat) (i : Int32) (st : List Value) (σ : dS), den mX7_isLiveBy 36 [l0, l1, l2, l3, l4] (.int i :: .ref q :: st) σ = if q ≤ dN then (dald σ q 0 i).bind (fun v => den mX7_isLiveBy 37 [l0, l1, l2, l3, l4] (.int v :: st) σ) else none) ∧
  (∀ (l0 l1 l2 l3 l4 : Option Value) (x y : Int32) (st : List Value) (σ : dS), den mX7_isLiveBy 37 [l0, l1, l2, l3, l4] (.int y :: .int x :: st) σ = if x < y then den mX7_isLiveBy 40 [l0, l1, l2, l3, l4] st σ else den mX7_isLiveBy 97 [l0, l1, l2, l3, l4] st σ) ∧
  (∀ (l1 l2 l3 l4 : Option Value) (x : Nat) (st : List Value) (σ : dS), den mX7_isLiveBy 40 [some (.ref x), l1, l2, l3, l4] st σ = den mX7_isLiveBy 41 [some (.ref x), l1, l2, l3, l4] (.ref x :: st) σ) ∧
  (∀ (l1 l2 l3 l4 : Option Value) (x : Nat) (st : List Value) (σ : dS), den mX7_isLiveBy 41 [some (.ref x), l1, l2, l3, l4] st σ = den mX7_isLiveBy 42 [some (.ref x), l1, l2, l3, l4] (.ref x :: st) σ) ∧
  (∀ (l0 l1 l2 l3 : Option Value) (x : Int32) (st : List Value) (σ : dS), den mX7_isLiveBy 42 [l0, l1, l2, l3, some (.int x)] st σ = den mX7_isLiveBy 44 [l0, l1, l2, l3, some (.int x)] (.int x :: st) σ) ∧
  (∀ (l0 l1 l2 l3 l4 : Option Value) (st : List Value) (σ : dS), den mX7_isLiveBy 44 [l0, l1, l2, l3, l4] st σ = den mX7_isLiveBy 45 [l0, l1, l2, l3, l4] (.int (nI 4) :: st) σ) ∧
  (∀ (l0 l1 l2 l3 l4 : Option Value) (a0 : Int32) (a1 : Int32) (b0 : Nat) (q : Nat) (σ : dS), den mX7_isLiveBy 45 [l0, l1, l2, l3, l4] [.int a1, .int a0, .ref q, .ref b0] σ = if disO σ q 6 = true then ((dcall mX7_of [.ref q, .int a0, .int a1] σ).bind fun r => den mX7_isLiveBy 48 [l0, l1, l2, l3, l4] (r.1.toList ++ [.ref b0]) r.2) else none) ∧
  (∀ (l0 l1 l3 l4 : Option Value) (x : Int32) (st : List Value) (σ : dS), den mX7_isLiveBy 48 [l0, l1, some (.int x), l3, l4] st σ = den mX7_isLiveBy 49 [l0, l1, some (.int x), l3, l4] (.int x :: st) σ) ∧
  (∀ (l0 l1 l2 l3 l4 : Option Value) (a0 : Int32) (a1 : Int32) (q : Nat) (σ : dS), den mX7_isLiveBy 49 [l0, l1, l2, l3, l4] [.int a1, .int a0, .ref q] σ = if disO σ q 6 = true then ((dcall mX7_holdsBy [.ref q, .int a0, .int a1] σ).bind fun r => den mX7_isLiveBy 52 [l0, l1, l2, l3, l4] (r.1.toList ++ []) r.2) else none) ∧
  (∀ (l0 l1 l2 l3 l4 : Option Value) (x : Int32) (st : List Value) (σ : dS), den mX7_isLiveBy 52 [l0, l1, l2, l3, l4] (.int x :: st) σ = if x = 0 then den mX7_isLiveBy 91 [l0, l1, l2, l3, l4] st σ else den mX7_isLiveBy 55 [l0, l1, l2, l3, l4] st σ) ∧
  (∀ (l1 l2 l3 l4 : Option Value) (x : Nat) (st : List Value) (σ : dS), den mX7_isLiveBy 55 [some (.ref x), l1, l2, l3, l4] st σ = den mX7_isLiveBy 56 [some (.ref x), l1, l2, l3, l4] (.ref x :: st) σ) ∧
  (∀ (l0 l1 l2 l3 : Option Value) (x : Int32) (st : List Value) (σ : dS), den mX7_isLiveBy 56 [l0, l1, l2, l3, some (.int x)] st σ = den mX7_isLiveBy 58 [l0, l1, l2, l3, some (.int x)] (.int x :: st) σ) ∧
  (∀ (l0 l1 l2 l4 : Option Value) (x : Int32) (st : List Value) (σ : dS), den mX7_isLiveBy 58 [l0, l1, l2, some (.int x), l4] st σ = den mX7_isLiveBy 59 [l0, l1, l2, some (.int x), l4] (.int x :: st) σ) ∧
  (∀ (l0 l1 l2 l3 l4 : Option Value) (a0 : Int32) (a1 : Int32) (q : Nat) (σ : dS), den mX7_isLiveBy 59 [l0, l1, l2, l3, l4] [.int a1, .int a0, .ref q] σ = if disO σ q 6 = true then ((dcall mX7_isRead [.ref q, .int a0, .int a1] σ).bind fun r => den mX7_isLiveBy 62 [l0, l1, l2, l3, l4] (r.1.toList ++ []) r.2) else none) ∧
  (∀ (l0 l1 l2 l3 l4 : Option Value) (x : Int32) (st : List Value) (σ : dS), den mX7_isLiveBy 62 [l0, l1, l2, l3, l4] (.int x :: st) σ = if x = 0 then den mX7_isLiveBy 67 [l0, l1, l2, l3, l4] st σ else den mX7_isLiveBy 65 [l0, l1, l2, l3, l4] st σ) ∧
  (∀ (l0 l1 l2 l3 l4 : Option Value) (st : List Value) (σ : dS), den mX7_isLiveBy 65 [l0, l1, l2, l3, l4] st σ = den mX7_isLiveBy 66 [l0, l1, l2, l3, l4] (.int (nI 1) :: st) σ) ∧
  (∀ (l0 l1 l2 l3 l4 : Option Value) (v : Int32) (σ : dS), den mX7_isLiveBy 66 [l0, l1, l2, l3, l4] [.int v] σ = if v = 0 ∨ v = 1 then some (some (.int v), σ) else none) ∧
  (∀ (l1 l2 l3 l4 : Option Value) (x : Nat) (st : List Value) (σ : dS), den mX7_isLiveBy 67 [some (.ref x), l1, l2, l3, l4] st σ = den mX7_isLiveBy 68 [some (.ref x), l1, l2, l3, l4] (.ref x :: st) σ) :=
  ⟨fun l1 l2 l3 l4 x st σ => dn_aload_n eX7_isLiveBy dX7_isLiveBy_0 rfl,
  fun l1 l2 l3 l4 x st σ => dn_aload_n eX7_isLiveBy dX7_isLiveBy_1 rfl,
  fun l0 l2 l3 l4 x st σ => dn_iload_n eX7_isLiveBy dX7_isLiveBy_2 rfl,
  fun l0 l1 l2 l3 l4 st σ => dn_iconst eX7_isLiveBy dX7_isLiveBy_3 kc_iconst_4,
  fun l0 l1 l2 l3 l4 a0 a1 b0 q σ => rX7_isLiveBy_4 l0 l1 l2 l3 l4 a0 a1 b0 q σ,
  fun l0 l1 l3 l4 x st σ => dn_iload_n eX7_isLiveBy dX7_isLiveBy_7 rfl,
  fun l0 l1 l2 l3 l4 a0 a1 q σ => rX7_isLiveBy_8 l0 l1 l2 l3 l4 a0 a1 q σ,
  fun l0 l1 l2 l3 l4 x st σ => dn_if_ne eX7_isLiveBy dX7_isLiveBy_11 (by decide),
  fun l0 l1 l2 l3 l4 st σ => dn_iconst eX7_isLiveBy dX7_isLiveBy_14 kc_iconst_0,
  fun l0 l1 l2 l3 l4 v σ => dn_zreturn eX7_isLiveBy dX7_isLiveBy_15 rfl,
  fun l1 l2 l3 l4 x st σ => dn_aload_n eX7_isLiveBy dX7_isLiveBy_16 rfl,
  fun l0 l2 l3 l4 x st σ => dn_iload_n eX7_isLiveBy dX7_isLiveBy_17 rfl,
  fun l0 l1 l2 l3 l4 st σ => dn_iconst eX7_isLiveBy dX7_isLiveBy_18 kc_iconst_1,
  fun l0 l1 l2 l3 l4 a0 a1 q σ => rX7_isLiveBy_19 l0 l1 l2 l3 l4 a0 a1 q σ,
  fun l0 l1 l3 l4 x y st σ => dn_istore_n eX7_isLiveBy dX7_isLiveBy_22 rfl,
  fun l0 l2 l3 l4 x st σ => dn_iload_n eX7_isLiveBy dX7_isLiveBy_23 rfl,
  fun l0 l1 l2 l3 l4 st σ => dn_iconst eX7_isLiveBy dX7_isLiveBy_24 kc_iconst_1,
  fun l0 l1 l2 l3 l4 x y st σ => dn_iadd eX7_isLiveBy dX7_isLiveBy_25,
  fun l0 l1 l2 l4 x y st σ => dn_istore eX7_isLiveBy dX7_isLiveBy_26 rfl,
  fun l1 l2 l3 l4 x st σ => dn_aload_n eX7_isLiveBy dX7_isLiveBy_30 rfl,
  fun l0 l1 l2 l3 l4 q st σ => dn_getfield (f := (6, 0, 771)) eX7_isLiveBy dX7_isLiveBy_31 (by decide +kernel),
  fun l0 l1 l2 l3 l4 st σ => dn_bipush eX7_isLiveBy dX7_isLiveBy_34 kc_bipush_120,
  fun l0 l1 l2 l3 l4 q i st σ => dn_iaload eX7_isLiveBy dX7_isLiveBy_36,
  fun l0 l1 l2 l3 l4 x y st σ => dn_icmp_ge eX7_isLiveBy dX7_isLiveBy_37 (by decide),
  fun l1 l2 l3 l4 x st σ => dn_aload_n eX7_isLiveBy dX7_isLiveBy_40 rfl,
  fun l1 l2 l3 l4 x st σ => dn_aload_n eX7_isLiveBy dX7_isLiveBy_41 rfl,
  fun l0 l1 l2 l3 x st σ => dn_iload eX7_isLiveBy dX7_isLiveBy_42 rfl,
  fun l0 l1 l2 l3 l4 st σ => dn_iconst eX7_isLiveBy dX7_isLiveBy_44 kc_iconst_4,
  fun l0 l1 l2 l3 l4 a0 a1 b0 q σ => rX7_isLiveBy_45 l0 l1 l2 l3 l4 a0 a1 b0 q σ,
  fun l0 l1 l3 l4 x st σ => dn_iload_n eX7_isLiveBy dX7_isLiveBy_48 rfl,
  fun l0 l1 l2 l3 l4 a0 a1 q σ => rX7_isLiveBy_49 l0 l1 l2 l3 l4 a0 a1 q σ,
  fun l0 l1 l2 l3 l4 x st σ => dn_if_eq eX7_isLiveBy dX7_isLiveBy_52 (by decide),
  fun l1 l2 l3 l4 x st σ => dn_aload_n eX7_isLiveBy dX7_isLiveBy_55 rfl,
  fun l0 l1 l2 l3 x st σ => dn_iload eX7_isLiveBy dX7_isLiveBy_56 rfl,
  fun l0 l1 l2 l4 x st σ => dn_iload_n eX7_isLiveBy dX7_isLiveBy_58 rfl,
  fun l0 l1 l2 l3 l4 a0 a1 q σ => rX7_isLiveBy_59 l0 l1 l2 l3 l4 a0 a1 q σ,
  fun l0 l1 l2 l3 l4 x st σ => dn_if_eq eX7_isLiveBy dX7_isLiveBy_62 (by decide),
  fun l0 l1 l2 l3 l4 st σ => dn_iconst eX7_isLiveBy dX7_isLiveBy_65 kc_iconst_1,
  fun l0 l1 l2 l3 l4 v σ => dn_zreturn eX7_isLiveBy dX7_isLiveBy_66 rfl,
  fun l1 l2 l3 l4 x st σ => dn_aload_n eX7_isLiveBy dX7_isLiveBy_67 rfl⟩
set_option maxRecDepth 20000 in
theorem SX7_isLiveBy_1 : (∀ (l0 l1 l2 l3 : Option Value) (x : Int32) (st : List Value) (σ : dS), den mX7_isLiveBy 68 [l0, l1, l2, l3, some (.int x)] st σ = den mX7_isLiveBy 70 [l0, l1, l2, l3, some (.int x)] (.int x :: st) σ) ∧
  (∀ (l0 l1 l2 l3 l4 : Option Value) (st : List Value) (σ : dS), den mX7_isLiveBy 70 [l0, l1, l2, l3, l4] st σ = den mX7_isLiveBy 71 [l0, l1, l2, l3, l4] (.int (nI 0) :: st) σ) ∧
  (∀ (l0 l1 l2 l3 l4 : Option Value) (a0 : Int32) (a1 : Int32) (q : Nat) (σ : dS), den mX7_isLiveBy 71 [l0, l1, l2, l3, l4] [.int a1, .int a0, .ref q] σ = if disO σ q 6 = true then ((dcall mX7_of [.ref q, .int a0, .int a1] σ).bind fun r => den mX7_isLiveBy 74 [l0, l1, l2, l3, l4] (r.1.toList ++ []) r.2) else none) ∧
  (∀ (l0 l1 l2 l3 l4 : Option Value) (st : List Value) (σ : dS), den mX7_isLiveBy 74 [l0, l1, l2, l3, l4] st σ = den mX7_isLiveBy 75 [l0, l1, l2, l3, l4] (.int (nI 5) :: st) σ) ∧
  (∀ (l0 l1 l2 l3 l4 : Option Value) (x y : Int32) (st : List Value) (σ : dS), den mX7_isLiveBy 75 [l0, l1, l2, l3, l4] (.int y :: .int x :: st) σ = if x = y then den mX7_isLiveBy 91 [l0, l1, l2, l3, l4] st σ else den mX7_isLiveBy 78 [l0, l1, l2, l3, l4] st σ) ∧
  (∀ (l1 l2 l3 l4 : Option Value) (x : Nat) (st : List Value) (σ : dS), den mX7_isLiveBy 78 [some (.ref x), l1, l2, l3, l4] st σ = den mX7_isLiveBy 79 [some (.ref x), l1, l2, l3, l4] (.ref x :: st) σ) ∧
  (∀ (l0 l1 l2 l3 : Option Value) (x : Int32) (st : List Value) (σ : dS), den mX7_isLiveBy 79 [l0, l1, l2, l3, some (.int x)] st σ = den mX7_isLiveBy 81 [l0, l1, l2, l3, some (.int x)] (.int x :: st) σ) ∧
  (∀ (l0 l1 l2 l3 l4 : Option Value) (st : List Value) (σ : dS), den mX7_isLiveBy 81 [l0, l1, l2, l3, l4] st σ = den mX7_isLiveBy 82 [l0, l1, l2, l3, l4] (.int (nI 1) :: st) σ) ∧
  (∀ (l0 l1 l2 l3 l4 : Option Value) (a0 : Int32) (a1 : Int32) (q : Nat) (σ : dS), den mX7_isLiveBy 82 [l0, l1, l2, l3, l4] [.int a1, .int a0, .ref q] σ = if disO σ q 6 = true then ((dcall mX7_of [.ref q, .int a0, .int a1] σ).bind fun r => den mX7_isLiveBy 85 [l0, l1, l2, l3, l4] (r.1.toList ++ []) r.2) else none) ∧
  (∀ (l0 l1 l2 l4 : Option Value) (x : Int32) (st : List Value) (σ : dS), den mX7_isLiveBy 85 [l0, l1, l2, some (.int x), l4] st σ = den mX7_isLiveBy 86 [l0, l1, l2, some (.int x), l4] (.int x :: st) σ) ∧
  (∀ (l0 l1 l2 l3 l4 : Option Value) (x y : Int32) (st : List Value) (σ : dS), den mX7_isLiveBy 86 [l0, l1, l2, l3, l4] (.int y :: .int x :: st) σ = if x = y then den mX7_isLiveBy 89 [l0, l1, l2, l3, l4] st σ else den mX7_isLiveBy 91 [l0, l1, l2, l3, l4] st σ) ∧
  (∀ (l0 l1 l2 l3 l4 : Option Value) (st : List Value) (σ : dS), den mX7_isLiveBy 89 [l0, l1, l2, l3, l4] st σ = den mX7_isLiveBy 90 [l0, l1, l2, l3, l4] (.int (nI 0) :: st) σ) ∧
  (∀ (l0 l1 l2 l3 l4 : Option Value) (v : Int32) (σ : dS), den mX7_isLiveBy 90 [l0, l1, l2, l3, l4] [.int v] σ = if v = 0 ∨ v = 1 then some (some (.int v), σ) else none) ∧
  (∀ (l0 l1 l2 : Option Value) (x : Int32) (y : Int32) (st : List Value) (σ : dS), den mX7_isLiveBy 91 [l0, l1, l2, some (.int y), some (.int x)] st σ = den mX7_isLiveBy 94 [l0, l1, l2, some (.int y), some (.int (x + nI 1))] st σ) ∧
  (∀ (l0 l1 l2 l3 l4 : Option Value) (st : List Value) (σ : dS), den mX7_isLiveBy 94 [l0, l1, l2, l3, l4] st σ = den mX7_isLiveBy 28 [l0, l1, l2, l3, l4] st σ) ∧
  (∀ (l1 l2 l3 l4 : Option Value) (x : Nat) (st : List Value) (σ : dS), den mX7_isLiveBy 97 [some (.ref x), l1, l2, l3, l4] st σ = den mX7_isLiveBy 98 [some (.ref x), l1, l2, l3, l4] (.ref x :: st) σ) ∧
  (∀ (l0 l1 l2 l3 l4 : Option Value) (q : Nat) (st : List Value) (σ : dS), den mX7_isLiveBy 98 [l0, l1, l2, l3, l4] (.ref q :: st) σ = (dget σ q 6 0).bind fun v => den mX7_isLiveBy 101 [l0, l1, l2, l3, l4] (v :: st) σ) ∧
  (∀ (l0 l1 l2 l3 l4 : Option Value) (st : List Value) (σ : dS), den mX7_isLiveBy 101 [l0, l1, l2, l3, l4] st σ = den mX7_isLiveBy 103 [l0, l1, l2, l3, l4] (.int (nI 121) :: st) σ) ∧
  (∀ (l0 l1 l2 l3 l4 : Option Value) (q : Nat) (i : Int32) (st : List Value) (σ : dS), den mX7_isLiveBy 103 [l0, l1, l2, l3, l4] (.int i :: .ref q :: st) σ = if q ≤ dN then (dald σ q 0 i).bind (fun v => den mX7_isLiveBy 104 [l0, l1, l2, l3, l4] (.int v :: st) σ) else none) ∧
  (∀ (l0 l1 l2 l4 : Option Value) (x : Int32) (st : List Value) (σ : dS), den mX7_isLiveBy 104 [l0, l1, l2, some (.int x), l4] st σ = den mX7_isLiveBy 105 [l0, l1, l2, some (.int x), l4] (.int x :: st) σ) ∧
  (∀ (l0 l1 l2 l3 l4 : Option Value) (x y : Int32) (st : List Value) (σ : dS), den mX7_isLiveBy 105 [l0, l1, l2, l3, l4] (.int y :: .int x :: st) σ = den mX7_isLiveBy 106 [l0, l1, l2, l3, l4] (.int (x >>> (y &&& 31)) :: st) σ) ∧
  (∀ (l0 l1 l2 l3 l4 : Option Value) (st : List Value) (σ : dS), den mX7_isLiveBy 106 [l0, l1, l2, l3, l4] st σ = den mX7_isLiveBy 107 [l0, l1, l2, l3, l4] (.int (nI 1) :: st) σ) ∧
  (∀ (l0 l1 l2 l3 l4 : Option Value) (x y : Int32) (st : List Value) (σ : dS), den mX7_isLiveBy 107 [l0, l1, l2, l3, l4] (.int y :: .int x :: st) σ = den mX7_isLiveBy 108 [l0, l1, l2, l3, l4] (.int (x &&& y) :: st) σ) ∧
  (∀ (l0 l1 l2 l3 l4 : Option Value) (st : List Value) (σ : dS), den mX7_isLiveBy 108 [l0, l1, l2, l3, l4] st σ = den mX7_isLiveBy 109 [l0, l1, l2, l3, l4] (.int (nI 1) :: st) σ) ∧
  (∀ (l0 l1 l2 l3 l4 : Option Value) (x y : Int32) (st : List Value) (σ : dS), den mX7_isLiveBy 109 [l0, l1, l2, l3, l4] (.int y :: .int x :: st) σ = if x = y then den mX7_isLiveBy 112 [l0, l1, l2, l3, l4] st σ else den mX7_isLiveBy 116 [l0, l1, l2, l3, l4] st σ) ∧
  (∀ (l0 l1 l2 l3 l4 : Option Value) (st : List Value) (σ : dS), den mX7_isLiveBy 112 [l0, l1, l2, l3, l4] st σ = den mX7_isLiveBy 113 [l0, l1, l2, l3, l4] (.int (nI 1) :: st) σ) ∧
  (∀ (l0 l1 l2 l3 l4 : Option Value) (st : List Value) (σ : dS), den mX7_isLiveBy 113 [l0, l1, l2, l3, l4] st σ = den mX7_isLiveBy 117 [l0, l1, l2, l3, l4] st σ) ∧
  (∀ (l0 l1 l2 l3 l4 : Option Value) (st : List Value) (σ : dS), den mX7_isLiveBy 116 [l0, l1, l2, l3, l4] st σ = den mX7_isLiveBy 117 [l0, l1, l2, l3, l4] (.int (nI 0) :: st) σ) ∧
  (∀ (l0 l1 l2 l3 l4 : Option Value) (v : Int32) (σ : dS), den mX7_isLiveBy 117 [l0, l1, l2, l3, l4] [.int v] σ = if v = 0 ∨ v = 1 then some (some (.int v), σ) else none) :=
  ⟨fun l0 l1 l2 l3 x st σ => dn_iload eX7_isLiveBy dX7_isLiveBy_68 rfl,
  fun l0 l1 l2 l3 l4 st σ => dn_iconst eX7_isLiveBy dX7_isLiveBy_70 kc_iconst_0,
  fun l0 l1 l2 l3 l4 a0 a1 q σ => rX7_isLiveBy_71 l0 l1 l2 l3 l4 a0 a1 q σ,
  fun l0 l1 l2 l3 l4 st σ => dn_iconst eX7_isLiveBy dX7_isLiveBy_74 kc_iconst_5,
  fun l0 l1 l2 l3 l4 x y st σ => dn_icmp_eq eX7_isLiveBy dX7_isLiveBy_75 (by decide),
  fun l1 l2 l3 l4 x st σ => dn_aload_n eX7_isLiveBy dX7_isLiveBy_78 rfl,
  fun l0 l1 l2 l3 x st σ => dn_iload eX7_isLiveBy dX7_isLiveBy_79 rfl,
  fun l0 l1 l2 l3 l4 st σ => dn_iconst eX7_isLiveBy dX7_isLiveBy_81 kc_iconst_1,
  fun l0 l1 l2 l3 l4 a0 a1 q σ => rX7_isLiveBy_82 l0 l1 l2 l3 l4 a0 a1 q σ,
  fun l0 l1 l2 l4 x st σ => dn_iload_n eX7_isLiveBy dX7_isLiveBy_85 rfl,
  fun l0 l1 l2 l3 l4 x y st σ => dn_icmp_ne eX7_isLiveBy dX7_isLiveBy_86 (by decide),
  fun l0 l1 l2 l3 l4 st σ => dn_iconst eX7_isLiveBy dX7_isLiveBy_89 kc_iconst_0,
  fun l0 l1 l2 l3 l4 v σ => dn_zreturn eX7_isLiveBy dX7_isLiveBy_90 rfl,
  fun l0 l1 l2 x y st σ => dn_iinc (v := nI 1) eX7_isLiveBy dX7_isLiveBy_91 rfl kc_iconst_1 rfl,
  fun l0 l1 l2 l3 l4 st σ => dn_goto eX7_isLiveBy dX7_isLiveBy_94 (by decide),
  fun l1 l2 l3 l4 x st σ => dn_aload_n eX7_isLiveBy dX7_isLiveBy_97 rfl,
  fun l0 l1 l2 l3 l4 q st σ => dn_getfield (f := (6, 0, 771)) eX7_isLiveBy dX7_isLiveBy_98 (by decide +kernel),
  fun l0 l1 l2 l3 l4 st σ => dn_bipush eX7_isLiveBy dX7_isLiveBy_101 kc_bipush_121,
  fun l0 l1 l2 l3 l4 q i st σ => dn_iaload eX7_isLiveBy dX7_isLiveBy_103,
  fun l0 l1 l2 l4 x st σ => dn_iload_n eX7_isLiveBy dX7_isLiveBy_104 rfl,
  fun l0 l1 l2 l3 l4 x y st σ => dn_ishr eX7_isLiveBy dX7_isLiveBy_105,
  fun l0 l1 l2 l3 l4 st σ => dn_iconst eX7_isLiveBy dX7_isLiveBy_106 kc_iconst_1,
  fun l0 l1 l2 l3 l4 x y st σ => dn_iand eX7_isLiveBy dX7_isLiveBy_107,
  fun l0 l1 l2 l3 l4 st σ => dn_iconst eX7_isLiveBy dX7_isLiveBy_108 kc_iconst_1,
  fun l0 l1 l2 l3 l4 x y st σ => dn_icmp_ne eX7_isLiveBy dX7_isLiveBy_109 (by decide),
  fun l0 l1 l2 l3 l4 st σ => dn_iconst eX7_isLiveBy dX7_isLiveBy_112 kc_iconst_1,
  fun l0 l1 l2 l3 l4 st σ => dn_goto eX7_isLiveBy dX7_isLiveBy_113 (by decide),
  fun l0 l1 l2 l3 l4 st σ => dn_iconst eX7_isLiveBy dX7_isLiveBy_116 kc_iconst_0,
  fun l0 l1 l2 l3 l4 v σ => dn_zreturn eX7_isLiveBy dX7_isLiveBy_117 rfl⟩
theorem CX7_isLive (a0 : Nat) (a1 : Int32) (σ : dS) : dcall mX7_isLive [.ref a0, .int a1] σ = den mX7_isLive 0 [some (.ref a0), some (.int a1), none, none] [] σ := dcall_den (by decide) rfl
theorem hX7_isLive_4 (l0 l1 l2 : Option Value) (x : Int32) (st : List Value) (σ : dS) : den mX7_isLive 4 [l0, l1, l2, some (.int x)] st σ = den mX7_isLive 5 [l0, l1, l2, some (.int x)] (.int x :: st) σ := dn_iload_n eX7_isLive dX7_isLive_4 rfl
theorem rX7_isLive_7 (l0 l1 l2 l3 : Option Value) (b0 : Int32) (b1 : Int32) (q : Nat) (σ : dS) : den mX7_isLive 7 [l0, l1, l2, l3] [.ref q, .int b0, .int b1] σ = if disO σ q 6 = true then ((dcall mX7_ifs [.ref q] σ).bind fun r => den mX7_isLive 10 [l0, l1, l2, l3] (r.1.toList ++ [.int b0, .int b1]) r.2) else none := by
  by_cases h : disO σ q 6 = true
  · rw [if_pos h]; exact dn_callV (e := (0, 122, 943)) (as := []) (rest := [.int b0, .int b1]) eX7_isLive dX7_isLive_7 (by decide +kernel) rfl (by decide +kernel) rfl (dcat_le rfl) (dlen_le rfl) rfl h
  · rw [if_neg h]; exact den_noV (e := (0, 122, 943)) (as := []) (rest := [.int b0, .int b1]) eX7_isLive dX7_isLive_7 (by decide +kernel) rfl rfl rfl h
theorem rX7_isLive_21 (l0 l1 l2 l3 : Option Value) (a0 : Int32) (a1 : Int32) (q : Nat) (σ : dS) : den mX7_isLive 21 [l0, l1, l2, l3] [.int a1, .int a0, .ref q] σ = if disO σ q 6 = true then ((dcall mX7_isLiveBy [.ref q, .int a0, .int a1] σ).bind fun r => den mX7_isLive 24 [l0, l1, l2, l3] (r.1.toList ++ []) r.2) else none := by
  by_cases h : disO σ q 6 = true
  · rw [if_pos h]; exact dn_callV (e := (0, 163, 1123)) (as := [.int a0, .int a1]) (rest := []) eX7_isLive dX7_isLive_21 (by decide +kernel) rfl (by decide +kernel) rfl (dcat_le rfl) (dlen_le rfl) rfl h
  · rw [if_neg h]; exact den_noV (e := (0, 163, 1123)) (as := [.int a0, .int a1]) (rest := []) eX7_isLive dX7_isLive_21 (by decide +kernel) rfl rfl rfl h
set_option maxRecDepth 20000 in
theorem SX7_isLive : (∀ (l0 l1 l2 l3 : Option Value) (st : List Value) (σ : dS), den mX7_isLive 0 [l0, l1, l2, l3] st σ = den mX7_isLive 1 [l0, l1, l2, l3] (.int (nI 0) :: st) σ) ∧
  (∀ (l0 l2 l3 : Option Value) (x : Int32) (y : Int32) (st : List Value) (σ : dS), den mX7_isLive 1 [l0, some (.int y), l2, l3] (.int x :: st) σ = den mX7_isLive 2 [l0, some (.int y), some (.int x), l3] st σ) ∧
  (∀ (l0 l1 l2 l3 : Option Value) (st : List Value) (σ : dS), den mX7_isLive 2 [l0, l1, l2, l3] st σ = den mX7_isLive 3 [l0, l1, l2, l3] (.int (nI 0) :: st) σ) ∧
  (∀ (l0 l1 l3 : Option Value) (x : Int32) (y : Int32) (st : List Value) (σ : dS), den mX7_isLive 3 [l0, l1, some (.int y), l3] (.int x :: st) σ = den mX7_isLive 4 [l0, l1, some (.int y), some (.int x)] st σ) ∧
  (∀ (l0 l1 l2 l3 : Option Value) (st : List Value) (σ : dS), den mX7_isLive 5 [l0, l1, l2, l3] st σ = den mX7_isLive 6 [l0, l1, l2, l3] (.int (nI 1) :: st) σ) ∧
  (∀ (l1 l2 l3 : Option Value) (x : Nat) (st : List Value) (σ : dS), den mX7_isLive 6 [some (.ref x), l1, l2, l3] st σ = den mX7_isLive 7 [some (.ref x), l1, l2, l3] (.ref x :: st) σ) ∧
  (∀ (l0 l1 l2 l3 : Option Value) (b0 : Int32) (b1 : Int32) (q : Nat) (σ : dS), den mX7_isLive 7 [l0, l1, l2, l3] [.ref q, .int b0, .int b1] σ = if disO σ q 6 = true then ((dcall mX7_ifs [.ref q] σ).bind fun r => den mX7_isLive 10 [l0, l1, l2, l3] (r.1.toList ++ [.int b0, .int b1]) r.2) else none) ∧
  (∀ (l0 l1 l2 l3 : Option Value) (x y : Int32) (st : List Value) (σ : dS), den mX7_isLive 10 [l0, l1, l2, l3] (.int y :: .int x :: st) σ = den mX7_isLive 11 [l0, l1, l2, l3] (.int (x <<< (y &&& 31)) :: st) σ) ∧
  (∀ (l0 l1 l2 l3 : Option Value) (x y : Int32) (st : List Value) (σ : dS), den mX7_isLive 11 [l0, l1, l2, l3] (.int y :: .int x :: st) σ = if x < y then den mX7_isLive 14 [l0, l1, l2, l3] st σ else den mX7_isLive 31 [l0, l1, l2, l3] st σ) ∧
  (∀ (l0 l1 l3 : Option Value) (x : Int32) (st : List Value) (σ : dS), den mX7_isLive 14 [l0, l1, some (.int x), l3] st σ = den mX7_isLive 15 [l0, l1, some (.int x), l3] (.int x :: st) σ) ∧
  (∀ (l0 l1 l2 l3 : Option Value) (x : Int32) (st : List Value) (σ : dS), den mX7_isLive 15 [l0, l1, l2, l3] (.int x :: st) σ = if x = 0 then den mX7_isLive 18 [l0, l1, l2, l3] st σ else den mX7_isLive 31 [l0, l1, l2, l3] st σ) ∧
  (∀ (l1 l2 l3 : Option Value) (x : Nat) (st : List Value) (σ : dS), den mX7_isLive 18 [some (.ref x), l1, l2, l3] st σ = den mX7_isLive 19 [some (.ref x), l1, l2, l3] (.ref x :: st) σ) ∧
  (∀ (l0 l2 l3 : Option Value) (x : Int32) (st : List Value) (σ : dS), den mX7_isLive 19 [l0, some (.int x), l2, l3] st σ = den mX7_isLive 20 [l0, some (.int x), l2, l3] (.int x :: st) σ) ∧
  (∀ (l0 l1 l2 : Option Value) (x : Int32) (st : List Value) (σ : dS), den mX7_isLive 20 [l0, l1, l2, some (.int x)] st σ = den mX7_isLive 21 [l0, l1, l2, some (.int x)] (.int x :: st) σ) ∧
  (∀ (l0 l1 l2 l3 : Option Value) (a0 : Int32) (a1 : Int32) (q : Nat) (σ : dS), den mX7_isLive 21 [l0, l1, l2, l3] [.int a1, .int a0, .ref q] σ = if disO σ q 6 = true then ((dcall mX7_isLiveBy [.ref q, .int a0, .int a1] σ).bind fun r => den mX7_isLive 24 [l0, l1, l2, l3] (r.1.toList ++ []) r.2) else none) ∧
  (∀ (l0 l2 l3 : Option Value) (x : Int32) (y : Int32) (st : List Value) (σ : dS), den mX7_isLive 24 [l0, some (.int y), l2, l3] (.int x :: st) σ = den mX7_isLive 25 [l0, some (.int y), some (.int x), l3] st σ) ∧
  (∀ (l0 l1 : Option Value) (x : Int32) (y : Int32) (st : List Value) (σ : dS), den mX7_isLive 25 [l0, l1, some (.int y), some (.int x)] st σ = den mX7_isLive 28 [l0, l1, some (.int y), some (.int (x + nI 1))] st σ) ∧
  (∀ (l0 l1 l2 l3 : Option Value) (st : List Value) (σ : dS), den mX7_isLive 28 [l0, l1, l2, l3] st σ = den mX7_isLive 4 [l0, l1, l2, l3] st σ) ∧
  (∀ (l0 l1 l3 : Option Value) (x : Int32) (st : List Value) (σ : dS), den mX7_isLive 31 [l0, l1, some (.int x), l3] st σ = den mX7_isLive 32 [l0, l1, some (.int x), l3] (.int x :: st) σ) ∧
  (∀ (l0 l1 l2 l3 : Option Value) (v : Int32) (σ : dS), den mX7_isLive 32 [l0, l1, l2, l3] [.int v] σ = if v = 0 ∨ v = 1 then some (some (.int v), σ) else none) :=
  ⟨fun l0 l1 l2 l3 st σ => dn_iconst eX7_isLive dX7_isLive_0 kc_iconst_0,
  fun l0 l2 l3 x y st σ => dn_istore_n eX7_isLive dX7_isLive_1 rfl,
  fun l0 l1 l2 l3 st σ => dn_iconst eX7_isLive dX7_isLive_2 kc_iconst_0,
  fun l0 l1 l3 x y st σ => dn_istore_n eX7_isLive dX7_isLive_3 rfl,
  fun l0 l1 l2 l3 st σ => dn_iconst eX7_isLive dX7_isLive_5 kc_iconst_1,
  fun l1 l2 l3 x st σ => dn_aload_n eX7_isLive dX7_isLive_6 rfl,
  fun l0 l1 l2 l3 b0 b1 q σ => rX7_isLive_7 l0 l1 l2 l3 b0 b1 q σ,
  fun l0 l1 l2 l3 x y st σ => dn_ishl eX7_isLive dX7_isLive_10,
  fun l0 l1 l2 l3 x y st σ => dn_icmp_ge eX7_isLive dX7_isLive_11 (by decide),
  fun l0 l1 l3 x st σ => dn_iload_n eX7_isLive dX7_isLive_14 rfl,
  fun l0 l1 l2 l3 x st σ => dn_if_ne eX7_isLive dX7_isLive_15 (by decide),
  fun l1 l2 l3 x st σ => dn_aload_n eX7_isLive dX7_isLive_18 rfl,
  fun l0 l2 l3 x st σ => dn_iload_n eX7_isLive dX7_isLive_19 rfl,
  fun l0 l1 l2 x st σ => dn_iload_n eX7_isLive dX7_isLive_20 rfl,
  fun l0 l1 l2 l3 a0 a1 q σ => rX7_isLive_21 l0 l1 l2 l3 a0 a1 q σ,
  fun l0 l2 l3 x y st σ => dn_istore_n eX7_isLive dX7_isLive_24 rfl,
  fun l0 l1 x y st σ => dn_iinc (v := nI 1) eX7_isLive dX7_isLive_25 rfl kc_iconst_1 rfl,
  fun l0 l1 l2 l3 st σ => dn_goto eX7_isLive dX7_isLive_28 (by decide),
  fun l0 l1 l3 x st σ => dn_iload_n eX7_isLive dX7_isLive_31 rfl,
  fun l0 l1 l2 l3 v σ => dn_zreturn eX7_isLive dX7_isLive_32 rfl⟩
theorem CX7_live (a0 : Nat) (a1 : Int32) (σ : dS) : dcall mX7_live [.ref a0, .int a1] σ = den mX7_live 0 [some (.ref a0), some (.int a1)] [] σ := dcall_den (by decide) rfl
theorem rX7_live_2 (l0 l1 : Option Value) (a0 : Int32) (q : Nat) (σ : dS) : den mX7_live 2 [l0, l1] [.int a0, .ref q] σ = if disO σ q 6 = true then ((dcall mX7_isCode [.ref q, .int a0] σ).bind fun r => den mX7_live 5 [l0, l1] (r.1.toList ++ []) r.2) else none := by
  by_cases h : disO σ q 6 = true
  · rw [if_pos h]; exact dn_callV (e := (0, 121, 1008)) (as := [.int a0]) (rest := []) eX7_live dX7_live_2 (by decide +kernel) rfl (by decide +kernel) rfl (dcat_le rfl) (dlen_le rfl) rfl h
  · rw [if_neg h]; exact den_noV (e := (0, 121, 1008)) (as := [.int a0]) (rest := []) eX7_live dX7_live_2 (by decide +kernel) rfl rfl rfl h
theorem rX7_live_11 (l0 l1 : Option Value) (a0 : Int32) (a1 : Int32) (q : Nat) (σ : dS) : den mX7_live 11 [l0, l1] [.int a1, .int a0, .ref q] σ = if disO σ q 6 = true then ((dcall mX7_of [.ref q, .int a0, .int a1] σ).bind fun r => den mX7_live 14 [l0, l1] (r.1.toList ++ []) r.2) else none := by
  by_cases h : disO σ q 6 = true
  · rw [if_pos h]; exact dn_callV (e := (0, 120, 947)) (as := [.int a0, .int a1]) (rest := []) eX7_live dX7_live_11 (by decide +kernel) rfl (by decide +kernel) rfl (dcat_le rfl) (dlen_le rfl) rfl h
  · rw [if_neg h]; exact den_noV (e := (0, 120, 947)) (as := [.int a0, .int a1]) (rest := []) eX7_live dX7_live_11 (by decide +kernel) rfl rfl rfl h
theorem rX7_live_20 (l0 l1 : Option Value) (a0 : Int32) (q : Nat) (σ : dS) : den mX7_live 20 [l0, l1] [.int a0, .ref q] σ = if disO σ q 6 = true then ((dcall mX7_isLive [.ref q, .int a0] σ).bind fun r => den mX7_live 23 [l0, l1] (r.1.toList ++ []) r.2) else none := by
  by_cases h : disO σ q 6 = true
  · rw [if_pos h]; exact dn_callV (e := (0, 164, 1119)) (as := [.int a0]) (rest := []) eX7_live dX7_live_20 (by decide +kernel) rfl (by decide +kernel) rfl (dcat_le rfl) (dlen_le rfl) rfl h
  · rw [if_neg h]; exact den_noV (e := (0, 164, 1119)) (as := [.int a0]) (rest := []) eX7_live dX7_live_20 (by decide +kernel) rfl rfl rfl h
set_option maxRecDepth 20000 in
theorem SX7_live : (∀ (l1 : Option Value) (x : Nat) (st : List Value) (σ : dS), den mX7_live 0 [some (.ref x), l1] st σ = den mX7_live 1 [some (.ref x), l1] (.ref x :: st) σ) ∧
  (∀ (l0 : Option Value) (x : Int32) (st : List Value) (σ : dS), den mX7_live 1 [l0, some (.int x)] st σ = den mX7_live 2 [l0, some (.int x)] (.int x :: st) σ) ∧
  (∀ (l0 l1 : Option Value) (a0 : Int32) (q : Nat) (σ : dS), den mX7_live 2 [l0, l1] [.int a0, .ref q] σ = if disO σ q 6 = true then ((dcall mX7_isCode [.ref q, .int a0] σ).bind fun r => den mX7_live 5 [l0, l1] (r.1.toList ++ []) r.2) else none) ∧
  (∀ (l0 l1 : Option Value) (x : Int32) (st : List Value) (σ : dS), den mX7_live 5 [l0, l1] (.int x :: st) σ = if x = 0 then den mX7_live 29 [l0, l1] st σ else den mX7_live 8 [l0, l1] st σ) ∧
  (∀ (l1 : Option Value) (x : Nat) (st : List Value) (σ : dS), den mX7_live 8 [some (.ref x), l1] st σ = den mX7_live 9 [some (.ref x), l1] (.ref x :: st) σ) ∧
  (∀ (l0 : Option Value) (x : Int32) (st : List Value) (σ : dS), den mX7_live 9 [l0, some (.int x)] st σ = den mX7_live 10 [l0, some (.int x)] (.int x :: st) σ) ∧
  (∀ (l0 l1 : Option Value) (st : List Value) (σ : dS), den mX7_live 10 [l0, l1] st σ = den mX7_live 11 [l0, l1] (.int (nI 0) :: st) σ) ∧
  (∀ (l0 l1 : Option Value) (a0 : Int32) (a1 : Int32) (q : Nat) (σ : dS), den mX7_live 11 [l0, l1] [.int a1, .int a0, .ref q] σ = if disO σ q 6 = true then ((dcall mX7_of [.ref q, .int a0, .int a1] σ).bind fun r => den mX7_live 14 [l0, l1] (r.1.toList ++ []) r.2) else none) ∧
  (∀ (l0 l1 : Option Value) (st : List Value) (σ : dS), den mX7_live 14 [l0, l1] st σ = den mX7_live 15 [l0, l1] (.int (nI 5) :: st) σ) ∧
  (∀ (l0 l1 : Option Value) (x y : Int32) (st : List Value) (σ : dS), den mX7_live 15 [l0, l1] (.int y :: .int x :: st) σ = if x = y then den mX7_live 29 [l0, l1] st σ else den mX7_live 18 [l0, l1] st σ) ∧
  (∀ (l1 : Option Value) (x : Nat) (st : List Value) (σ : dS), den mX7_live 18 [some (.ref x), l1] st σ = den mX7_live 19 [some (.ref x), l1] (.ref x :: st) σ) ∧
  (∀ (l0 : Option Value) (x : Int32) (st : List Value) (σ : dS), den mX7_live 19 [l0, some (.int x)] st σ = den mX7_live 20 [l0, some (.int x)] (.int x :: st) σ) ∧
  (∀ (l0 l1 : Option Value) (a0 : Int32) (q : Nat) (σ : dS), den mX7_live 20 [l0, l1] [.int a0, .ref q] σ = if disO σ q 6 = true then ((dcall mX7_isLive [.ref q, .int a0] σ).bind fun r => den mX7_live 23 [l0, l1] (r.1.toList ++ []) r.2) else none) ∧
  (∀ (l0 l1 : Option Value) (a0 : Int32) (σ : dS), den mX7_live 23 [l0, l1] [.int a0] σ = (dcall mX7_flag [.int a0] σ).bind fun r => den mX7_live 26 [l0, l1] (r.1.toList ++ []) r.2) ∧
  (∀ (l0 l1 : Option Value) (st : List Value) (σ : dS), den mX7_live 26 [l0, l1] st σ = den mX7_live 30 [l0, l1] st σ) ∧
  (∀ (l0 l1 : Option Value) (st : List Value) (σ : dS), den mX7_live 29 [l0, l1] st σ = den mX7_live 30 [l0, l1] (.int ((-1)) :: st) σ) ∧
  (∀ (l0 l1 : Option Value) (v : Int32) (σ : dS), den mX7_live 30 [l0, l1] [.int v] σ = some (some (.int v), σ)) :=
  ⟨fun l1 x st σ => dn_aload_n eX7_live dX7_live_0 rfl,
  fun l0 x st σ => dn_iload_n eX7_live dX7_live_1 rfl,
  fun l0 l1 a0 q σ => rX7_live_2 l0 l1 a0 q σ,
  fun l0 l1 x st σ => dn_if_eq eX7_live dX7_live_5 (by decide),
  fun l1 x st σ => dn_aload_n eX7_live dX7_live_8 rfl,
  fun l0 x st σ => dn_iload_n eX7_live dX7_live_9 rfl,
  fun l0 l1 st σ => dn_iconst eX7_live dX7_live_10 kc_iconst_0,
  fun l0 l1 a0 a1 q σ => rX7_live_11 l0 l1 a0 a1 q σ,
  fun l0 l1 st σ => dn_iconst eX7_live dX7_live_14 kc_iconst_5,
  fun l0 l1 x y st σ => dn_icmp_eq eX7_live dX7_live_15 (by decide),
  fun l1 x st σ => dn_aload_n eX7_live dX7_live_18 rfl,
  fun l0 x st σ => dn_iload_n eX7_live dX7_live_19 rfl,
  fun l0 l1 a0 q σ => rX7_live_20 l0 l1 a0 q σ,
  fun l0 l1 a0 σ => dn_callS (e := (1, 103, 951)) (as := [.int a0]) (rest := []) eX7_live dX7_live_23 (by decide +kernel) (Or.inl rfl) (by decide +kernel) rfl (dcat_le rfl) (dlen_le rfl) rfl,
  fun l0 l1 st σ => dn_goto eX7_live dX7_live_26 (by decide),
  fun l0 l1 st σ => dn_iconst eX7_live dX7_live_29 kc_iconst_m1,
  fun l0 l1 v σ => dn_ireturn eX7_live dX7_live_30 rfl⟩
theorem CX7_out (a0 : Nat) (a1 : Int32) (σ : dS) : dcall mX7_out [.ref a0, .int a1] σ = den mX7_out 0 [some (.ref a0), some (.int a1)] [] σ := dcall_den (by decide) rfl
theorem rX7_out_16 (l0 l1 : Option Value) (a0 : Int32) (a1 : Int32) (q : Nat) (σ : dS) : den mX7_out 16 [l0, l1] [.int a1, .int a0, .ref q] σ = if disO σ q 6 = true then ((dcall mX7_becomes [.ref q, .int a0, .int a1] σ).bind fun r => den mX7_out 19 [l0, l1] (r.1.toList ++ []) r.2) else none := by
  by_cases h : disO σ q 6 = true
  · rw [if_pos h]; exact dn_callV (e := (0, 157, 1099)) (as := [.int a0, .int a1]) (rest := []) eX7_out dX7_out_16 (by decide +kernel) rfl (by decide +kernel) rfl (dcat_le rfl) (dlen_le rfl) rfl h
  · rw [if_neg h]; exact den_noV (e := (0, 157, 1099)) (as := [.int a0, .int a1]) (rest := []) eX7_out dX7_out_16 (by decide +kernel) rfl rfl rfl h
set_option maxRecDepth 20000 in
theorem SX7_out : (∀ (l0 : Option Value) (x : Int32) (st : List Value) (σ : dS), den mX7_out 0 [l0, some (.int x)] st σ = den mX7_out 1 [l0, some (.int x)] (.int x :: st) σ) ∧
  (∀ (l0 l1 : Option Value) (x : Int32) (st : List Value) (σ : dS), den mX7_out 1 [l0, l1] (.int x :: st) σ = den mX7_out 2 [l0, l1] (.long x.toInt64 :: st) σ) ∧
  (∀ (l0 l1 : Option Value) (st : List Value) (σ : dS), den mX7_out 2 [l0, l1] st σ = den mX7_out 3 [l0, l1] (.long (lN 0) :: st) σ) ∧
  (∀ (l0 l1 : Option Value) (st : List Value) (σ : dS), den mX7_out 3 [l0, l1] st σ = den mX7_out 6 [l0, l1] (.long (lN 255) :: st) σ) ∧
  (∀ (l0 l1 : Option Value) (a0 : Int64) (a1 : Int64) (a2 : Int64) (σ : dS), den mX7_out 6 [l0, l1] [.long a2, .long a1, .long a0] σ = (dcall mX7_in [.long a0, .long a1, .long a2] σ).bind fun r => den mX7_out 9 [l0, l1] (r.1.toList ++ []) r.2) ∧
  (∀ (l0 l1 : Option Value) (x : Int32) (st : List Value) (σ : dS), den mX7_out 9 [l0, l1] (.int x :: st) σ = if x = 0 then den mX7_out 22 [l0, l1] st σ else den mX7_out 12 [l0, l1] st σ) ∧
  (∀ (l1 : Option Value) (x : Nat) (st : List Value) (σ : dS), den mX7_out 12 [some (.ref x), l1] st σ = den mX7_out 13 [some (.ref x), l1] (.ref x :: st) σ) ∧
  (∀ (l0 l1 : Option Value) (st : List Value) (σ : dS), den mX7_out 13 [l0, l1] st σ = den mX7_out 15 [l0, l1] (.int (nI 121) :: st) σ) ∧
  (∀ (l0 : Option Value) (x : Int32) (st : List Value) (σ : dS), den mX7_out 15 [l0, some (.int x)] st σ = den mX7_out 16 [l0, some (.int x)] (.int x :: st) σ) ∧
  (∀ (l0 l1 : Option Value) (a0 : Int32) (a1 : Int32) (q : Nat) (σ : dS), den mX7_out 16 [l0, l1] [.int a1, .int a0, .ref q] σ = if disO σ q 6 = true then ((dcall mX7_becomes [.ref q, .int a0, .int a1] σ).bind fun r => den mX7_out 19 [l0, l1] (r.1.toList ++ []) r.2) else none) ∧
  (∀ (l0 l1 : Option Value) (st : List Value) (σ : dS), den mX7_out 19 [l0, l1] st σ = den mX7_out 23 [l0, l1] st σ) ∧
  (∀ (l0 l1 : Option Value) (st : List Value) (σ : dS), den mX7_out 22 [l0, l1] st σ = den mX7_out 23 [l0, l1] (.int ((-1)) :: st) σ) ∧
  (∀ (l0 l1 : Option Value) (v : Int32) (σ : dS), den mX7_out 23 [l0, l1] [.int v] σ = some (some (.int v), σ)) :=
  ⟨fun l0 x st σ => dn_iload_n eX7_out dX7_out_0 rfl,
  fun l0 l1 x st σ => dn_i2l eX7_out dX7_out_1,
  fun l0 l1 st σ => dn_lconst eX7_out dX7_out_2 kc_lconst_0,
  fun l0 l1 st σ => dn_ldc2_w (w := 255) (p := 1135) eX7_out dX7_out_3 (by decide +kernel) (by decide +kernel),
  fun l0 l1 a0 a1 a2 σ => dn_callS (e := (1, 102, 879)) (as := [.long a0, .long a1, .long a2]) (rest := []) eX7_out dX7_out_6 (by decide +kernel) (Or.inl rfl) (by decide +kernel) rfl (dcat_le rfl) (dlen_le rfl) rfl,
  fun l0 l1 x st σ => dn_if_eq eX7_out dX7_out_9 (by decide),
  fun l1 x st σ => dn_aload_n eX7_out dX7_out_12 rfl,
  fun l0 l1 st σ => dn_bipush eX7_out dX7_out_13 kc_bipush_121,
  fun l0 x st σ => dn_iload_n eX7_out dX7_out_15 rfl,
  fun l0 l1 a0 a1 q σ => rX7_out_16 l0 l1 a0 a1 q σ,
  fun l0 l1 st σ => dn_goto eX7_out dX7_out_19 (by decide),
  fun l0 l1 st σ => dn_iconst eX7_out dX7_out_22 kc_iconst_m1,
  fun l0 l1 v σ => dn_ireturn eX7_out dX7_out_23 rfl⟩
theorem CX7_codeGoes (a0 : Nat) (a1 : Int32) (σ : dS) : dcall mX7_codeGoes [.ref a0, .int a1] σ = den mX7_codeGoes 0 [some (.ref a0), some (.int a1), none] [] σ := dcall_den (by decide) rfl
theorem hX7_codeGoes_4 (l0 l1 : Option Value) (x : Int32) (st : List Value) (σ : dS) : den mX7_codeGoes 4 [l0, l1, some (.int x)] st σ = den mX7_codeGoes 5 [l0, l1, some (.int x)] (.int x :: st) σ := dn_iload_n eX7_codeGoes dX7_codeGoes_4 rfl
set_option maxRecDepth 20000 in
theorem SX7_codeGoes : (∀ (l0 l1 l2 : Option Value) (st : List Value) (σ : dS), den mX7_codeGoes 0 [l0, l1, l2] st σ = den mX7_codeGoes 1 [l0, l1, l2] (.int (nI 5) :: st) σ) ∧
  (∀ (l0 l2 : Option Value) (x : Int32) (st : List Value) (σ : dS), den mX7_codeGoes 1 [l0, some (.int x), l2] st σ = den mX7_codeGoes 2 [l0, some (.int x), l2] (.int x :: st) σ) ∧
  (∀ (l0 l1 l2 : Option Value) (x y : Int32) (st : List Value) (σ : dS), den mX7_codeGoes 2 [l0, l1, l2] (.int y :: .int x :: st) σ = den mX7_codeGoes 3 [l0, l1, l2] (.int (x * y) :: st) σ) ∧
  (∀ (l0 l2 : Option Value) (x : Int32) (y : Int32) (st : List Value) (σ : dS), den mX7_codeGoes 3 [l0, some (.int y), l2] (.int x :: st) σ = den mX7_codeGoes 4 [l0, some (.int y), some (.int x)] st σ) ∧
  (∀ (l0 l1 l2 : Option Value) (st : List Value) (σ : dS), den mX7_codeGoes 5 [l0, l1, l2] st σ = den mX7_codeGoes 6 [l0, l1, l2] (.int (nI 5) :: st) σ) ∧
  (∀ (l1 l2 : Option Value) (x : Nat) (st : List Value) (σ : dS), den mX7_codeGoes 6 [some (.ref x), l1, l2] st σ = den mX7_codeGoes 7 [some (.ref x), l1, l2] (.ref x :: st) σ) ∧
  (∀ (l0 l1 l2 : Option Value) (q : Nat) (st : List Value) (σ : dS), den mX7_codeGoes 7 [l0, l1, l2] (.ref q :: st) σ = (dget σ q 6 0).bind fun v => den mX7_codeGoes 10 [l0, l1, l2] (v :: st) σ) ∧
  (∀ (l0 l1 l2 : Option Value) (st : List Value) (σ : dS), den mX7_codeGoes 10 [l0, l1, l2] st σ = den mX7_codeGoes 12 [l0, l1, l2] (.int (nI 120) :: st) σ) ∧
  (∀ (l0 l1 l2 : Option Value) (q : Nat) (i : Int32) (st : List Value) (σ : dS), den mX7_codeGoes 12 [l0, l1, l2] (.int i :: .ref q :: st) σ = if q ≤ dN then (dald σ q 0 i).bind (fun v => den mX7_codeGoes 13 [l0, l1, l2] (.int v :: st) σ) else none) ∧
  (∀ (l0 l1 l2 : Option Value) (st : List Value) (σ : dS), den mX7_codeGoes 13 [l0, l1, l2] st σ = den mX7_codeGoes 14 [l0, l1, l2] (.int (nI 1) :: st) σ) ∧
  (∀ (l0 l1 l2 : Option Value) (x y : Int32) (st : List Value) (σ : dS), den mX7_codeGoes 14 [l0, l1, l2] (.int y :: .int x :: st) σ = den mX7_codeGoes 15 [l0, l1, l2] (.int (x - y) :: st) σ) ∧
  (∀ (l0 l1 l2 : Option Value) (x y : Int32) (st : List Value) (σ : dS), den mX7_codeGoes 15 [l0, l1, l2] (.int y :: .int x :: st) σ = den mX7_codeGoes 16 [l0, l1, l2] (.int (x * y) :: st) σ) ∧
  (∀ (l0 l1 l2 : Option Value) (x y : Int32) (st : List Value) (σ : dS), den mX7_codeGoes 16 [l0, l1, l2] (.int y :: .int x :: st) σ = if x < y then den mX7_codeGoes 19 [l0, l1, l2] st σ else den mX7_codeGoes 39 [l0, l1, l2] st σ) ∧
  (∀ (l1 l2 : Option Value) (x : Nat) (st : List Value) (σ : dS), den mX7_codeGoes 19 [some (.ref x), l1, l2] st σ = den mX7_codeGoes 20 [some (.ref x), l1, l2] (.ref x :: st) σ) ∧
  (∀ (l0 l1 l2 : Option Value) (q : Nat) (st : List Value) (σ : dS), den mX7_codeGoes 20 [l0, l1, l2] (.ref q :: st) σ = (dget σ q 6 0).bind fun v => den mX7_codeGoes 23 [l0, l1, l2] (v :: st) σ) ∧
  (∀ (l0 l1 : Option Value) (x : Int32) (st : List Value) (σ : dS), den mX7_codeGoes 23 [l0, l1, some (.int x)] st σ = den mX7_codeGoes 24 [l0, l1, some (.int x)] (.int x :: st) σ) ∧
  (∀ (l1 l2 : Option Value) (x : Nat) (st : List Value) (σ : dS), den mX7_codeGoes 24 [some (.ref x), l1, l2] st σ = den mX7_codeGoes 25 [some (.ref x), l1, l2] (.ref x :: st) σ) ∧
  (∀ (l0 l1 l2 : Option Value) (q : Nat) (st : List Value) (σ : dS), den mX7_codeGoes 25 [l0, l1, l2] (.ref q :: st) σ = (dget σ q 6 0).bind fun v => den mX7_codeGoes 28 [l0, l1, l2] (v :: st) σ) ∧
  (∀ (l0 l1 : Option Value) (x : Int32) (st : List Value) (σ : dS), den mX7_codeGoes 28 [l0, l1, some (.int x)] st σ = den mX7_codeGoes 29 [l0, l1, some (.int x)] (.int x :: st) σ) ∧
  (∀ (l0 l1 l2 : Option Value) (st : List Value) (σ : dS), den mX7_codeGoes 29 [l0, l1, l2] st σ = den mX7_codeGoes 30 [l0, l1, l2] (.int (nI 5) :: st) σ) ∧
  (∀ (l0 l1 l2 : Option Value) (x y : Int32) (st : List Value) (σ : dS), den mX7_codeGoes 30 [l0, l1, l2] (.int y :: .int x :: st) σ = den mX7_codeGoes 31 [l0, l1, l2] (.int (x + y) :: st) σ) ∧
  (∀ (l0 l1 l2 : Option Value) (q : Nat) (i : Int32) (st : List Value) (σ : dS), den mX7_codeGoes 31 [l0, l1, l2] (.int i :: .ref q :: st) σ = if q ≤ dN then (dald σ q 0 i).bind (fun v => den mX7_codeGoes 32 [l0, l1, l2] (.int v :: st) σ) else none) ∧
  (∀ (l0 l1 l2 : Option Value) (q : Nat) (i x : Int32) (st : List Value) (σ : dS), den mX7_codeGoes 32 [l0, l1, l2] (.int x :: .int i :: .ref q :: st) σ = (dast σ q 0 i x).bind fun τ => den mX7_codeGoes 33 [l0, l1, l2] st τ) ∧
  (∀ (l0 : Option Value) (x : Int32) (y : Int32) (st : List Value) (σ : dS), den mX7_codeGoes 33 [l0, some (.int y), some (.int x)] st σ = den mX7_codeGoes 36 [l0, some (.int y), some (.int (x + nI 1))] st σ) ∧
  (∀ (l0 l1 l2 : Option Value) (st : List Value) (σ : dS), den mX7_codeGoes 36 [l0, l1, l2] st σ = den mX7_codeGoes 4 [l0, l1, l2] st σ) ∧
  (∀ (l1 l2 : Option Value) (x : Nat) (st : List Value) (σ : dS), den mX7_codeGoes 39 [some (.ref x), l1, l2] st σ = den mX7_codeGoes 40 [some (.ref x), l1, l2] (.ref x :: st) σ) ∧
  (∀ (l0 l1 l2 : Option Value) (q : Nat) (st : List Value) (σ : dS), den mX7_codeGoes 40 [l0, l1, l2] (.ref q :: st) σ = (dget σ q 6 0).bind fun v => den mX7_codeGoes 43 [l0, l1, l2] (v :: st) σ) ∧
  (∀ (l0 l1 l2 : Option Value) (st : List Value) (σ : dS), den mX7_codeGoes 43 [l0, l1, l2] st σ = den mX7_codeGoes 45 [l0, l1, l2] (.int (nI 120) :: st) σ) ∧
  (∀ (l0 l1 l2 : Option Value) (x : Int32) (y : Nat) (st : List Value) (σ : dS), den mX7_codeGoes 45 [l0, l1, l2] (.int x :: .ref y :: st) σ = den mX7_codeGoes 46 [l0, l1, l2] (.int x :: .ref y :: .int x :: .ref y :: st) σ) ∧
  (∀ (l0 l1 l2 : Option Value) (q : Nat) (i : Int32) (st : List Value) (σ : dS), den mX7_codeGoes 46 [l0, l1, l2] (.int i :: .ref q :: st) σ = if q ≤ dN then (dald σ q 0 i).bind (fun v => den mX7_codeGoes 47 [l0, l1, l2] (.int v :: st) σ) else none) ∧
  (∀ (l0 l1 l2 : Option Value) (st : List Value) (σ : dS), den mX7_codeGoes 47 [l0, l1, l2] st σ = den mX7_codeGoes 48 [l0, l1, l2] (.int (nI 1) :: st) σ) ∧
  (∀ (l0 l1 l2 : Option Value) (x y : Int32) (st : List Value) (σ : dS), den mX7_codeGoes 48 [l0, l1, l2] (.int y :: .int x :: st) σ = den mX7_codeGoes 49 [l0, l1, l2] (.int (x - y) :: st) σ) ∧
  (∀ (l0 l1 l2 : Option Value) (q : Nat) (i x : Int32) (st : List Value) (σ : dS), den mX7_codeGoes 49 [l0, l1, l2] (.int x :: .int i :: .ref q :: st) σ = (dast σ q 0 i x).bind fun τ => den mX7_codeGoes 50 [l0, l1, l2] st τ) ∧
  (∀ (l0 l1 l2 : Option Value) (σ : dS), den mX7_codeGoes 50 [l0, l1, l2] [] σ = some (none, σ)) :=
  ⟨fun l0 l1 l2 st σ => dn_iconst eX7_codeGoes dX7_codeGoes_0 kc_iconst_5,
  fun l0 l2 x st σ => dn_iload_n eX7_codeGoes dX7_codeGoes_1 rfl,
  fun l0 l1 l2 x y st σ => dn_imul eX7_codeGoes dX7_codeGoes_2,
  fun l0 l2 x y st σ => dn_istore_n eX7_codeGoes dX7_codeGoes_3 rfl,
  fun l0 l1 l2 st σ => dn_iconst eX7_codeGoes dX7_codeGoes_5 kc_iconst_5,
  fun l1 l2 x st σ => dn_aload_n eX7_codeGoes dX7_codeGoes_6 rfl,
  fun l0 l1 l2 q st σ => dn_getfield (f := (6, 0, 771)) eX7_codeGoes dX7_codeGoes_7 (by decide +kernel),
  fun l0 l1 l2 st σ => dn_bipush eX7_codeGoes dX7_codeGoes_10 kc_bipush_120,
  fun l0 l1 l2 q i st σ => dn_iaload eX7_codeGoes dX7_codeGoes_12,
  fun l0 l1 l2 st σ => dn_iconst eX7_codeGoes dX7_codeGoes_13 kc_iconst_1,
  fun l0 l1 l2 x y st σ => dn_isub eX7_codeGoes dX7_codeGoes_14,
  fun l0 l1 l2 x y st σ => dn_imul eX7_codeGoes dX7_codeGoes_15,
  fun l0 l1 l2 x y st σ => dn_icmp_ge eX7_codeGoes dX7_codeGoes_16 (by decide),
  fun l1 l2 x st σ => dn_aload_n eX7_codeGoes dX7_codeGoes_19 rfl,
  fun l0 l1 l2 q st σ => dn_getfield (f := (6, 0, 771)) eX7_codeGoes dX7_codeGoes_20 (by decide +kernel),
  fun l0 l1 x st σ => dn_iload_n eX7_codeGoes dX7_codeGoes_23 rfl,
  fun l1 l2 x st σ => dn_aload_n eX7_codeGoes dX7_codeGoes_24 rfl,
  fun l0 l1 l2 q st σ => dn_getfield (f := (6, 0, 771)) eX7_codeGoes dX7_codeGoes_25 (by decide +kernel),
  fun l0 l1 x st σ => dn_iload_n eX7_codeGoes dX7_codeGoes_28 rfl,
  fun l0 l1 l2 st σ => dn_iconst eX7_codeGoes dX7_codeGoes_29 kc_iconst_5,
  fun l0 l1 l2 x y st σ => dn_iadd eX7_codeGoes dX7_codeGoes_30,
  fun l0 l1 l2 q i st σ => dn_iaload eX7_codeGoes dX7_codeGoes_31,
  fun l0 l1 l2 q i x st σ => dn_iastore eX7_codeGoes dX7_codeGoes_32,
  fun l0 x y st σ => dn_iinc (v := nI 1) eX7_codeGoes dX7_codeGoes_33 rfl kc_iconst_1 rfl,
  fun l0 l1 l2 st σ => dn_goto eX7_codeGoes dX7_codeGoes_36 (by decide),
  fun l1 l2 x st σ => dn_aload_n eX7_codeGoes dX7_codeGoes_39 rfl,
  fun l0 l1 l2 q st σ => dn_getfield (f := (6, 0, 771)) eX7_codeGoes dX7_codeGoes_40 (by decide +kernel),
  fun l0 l1 l2 st σ => dn_bipush eX7_codeGoes dX7_codeGoes_43 kc_bipush_120,
  fun l0 l1 l2 x y st σ => dn_dup2 eX7_codeGoes dX7_codeGoes_45 rfl rfl,
  fun l0 l1 l2 q i st σ => dn_iaload eX7_codeGoes dX7_codeGoes_46,
  fun l0 l1 l2 st σ => dn_iconst eX7_codeGoes dX7_codeGoes_47 kc_iconst_1,
  fun l0 l1 l2 x y st σ => dn_isub eX7_codeGoes dX7_codeGoes_48,
  fun l0 l1 l2 q i x st σ => dn_iastore eX7_codeGoes dX7_codeGoes_49,
  fun l0 l1 l2 σ => dn_return eX7_codeGoes dX7_codeGoes_50 rfl⟩
theorem CX7_sweepOnce (a0 : Nat) (σ : dS) : dcall mX7_sweepOnce [.ref a0] σ = den mX7_sweepOnce 0 [some (.ref a0), none, none] [] σ := dcall_den (by decide) rfl
theorem hX7_sweepOnce_4 (l0 l1 : Option Value) (x : Int32) (st : List Value) (σ : dS) : den mX7_sweepOnce 4 [l0, l1, some (.int x)] st σ = den mX7_sweepOnce 5 [l0, l1, some (.int x)] (.int x :: st) σ := dn_iload_n eX7_sweepOnce dX7_sweepOnce_4 rfl
theorem rX7_sweepOnce_23 (l0 l1 l2 : Option Value) (a0 : Int32) (a1 : Int32) (b0 : Int32) (b1 : Nat) (q : Nat) (σ : dS) : den mX7_sweepOnce 23 [l0, l1, l2] [.int a1, .int a0, .ref q, .int b0, .ref b1] σ = if disO σ q 6 = true then ((dcall mX7_of [.ref q, .int a0, .int a1] σ).bind fun r => den mX7_sweepOnce 26 [l0, l1, l2] (r.1.toList ++ [.int b0, .ref b1]) r.2) else none := by
  by_cases h : disO σ q 6 = true
  · rw [if_pos h]; exact dn_callV (e := (0, 120, 947)) (as := [.int a0, .int a1]) (rest := [.int b0, .ref b1]) eX7_sweepOnce dX7_sweepOnce_23 (by decide +kernel) rfl (by decide +kernel) rfl (dcat_le rfl) (dlen_le rfl) rfl h
  · rw [if_neg h]; exact den_noV (e := (0, 120, 947)) (as := [.int a0, .int a1]) (rest := [.int b0, .ref b1]) eX7_sweepOnce dX7_sweepOnce_23 (by decide +kernel) rfl rfl rfl h
theorem rX7_sweepOnce_32 (l0 l1 l2 : Option Value) (a0 : Int32) (b0 : Int32) (b1 : Nat) (q : Nat) (σ : dS) : den mX7_sweepOnce 32 [l0, l1, l2] [.int a0, .ref q, .int b0, .ref b1] σ = if disO σ q 6 = true then ((dcall mX7_isLive [.ref q, .int a0] σ).bind fun r => den mX7_sweepOnce 35 [l0, l1, l2] (r.1.toList ++ [.int b0, .ref b1]) r.2) else none := by
  by_cases h : disO σ q 6 = true
  · rw [if_pos h]; exact dn_callV (e := (0, 164, 1119)) (as := [.int a0]) (rest := [.int b0, .ref b1]) eX7_sweepOnce dX7_sweepOnce_32 (by decide +kernel) rfl (by decide +kernel) rfl (dcat_le rfl) (dlen_le rfl) rfl h
  · rw [if_neg h]; exact den_noV (e := (0, 164, 1119)) (as := [.int a0]) (rest := [.int b0, .ref b1]) eX7_sweepOnce dX7_sweepOnce_32 (by decide +kernel) rfl rfl rfl h
theorem hX7_sweepOnce_72 (l0 l1 : Option Value) (x : Int32) (st : List Value) (σ : dS) : den mX7_sweepOnce 72 [l0, l1, some (.int x)] st σ = den mX7_sweepOnce 73 [l0, l1, some (.int x)] (.int x :: st) σ := dn_iload_n eX7_sweepOnce dX7_sweepOnce_72 rfl
theorem rX7_sweepOnce_87 (l0 l1 l2 : Option Value) (a0 : Int32) (q : Nat) (σ : dS) : den mX7_sweepOnce 87 [l0, l1, l2] [.int a0, .ref q] σ = if disO σ q 6 = true then ((dcall mX7_codeGoes [.ref q, .int a0] σ).bind fun r => den mX7_sweepOnce 90 [l0, l1, l2] (r.1.toList ++ []) r.2) else none := by
  by_cases h : disO σ q 6 = true
  · rw [if_pos h]; exact dn_callV (e := (0, 167, 1144)) (as := [.int a0]) (rest := []) eX7_sweepOnce dX7_sweepOnce_87 (by decide +kernel) rfl (by decide +kernel) rfl (dcat_le rfl) (dlen_le rfl) rfl h
  · rw [if_neg h]; exact den_noV (e := (0, 167, 1144)) (as := [.int a0]) (rest := []) eX7_sweepOnce dX7_sweepOnce_87 (by decide +kernel) rfl rfl rfl h
set_option maxRecDepth 20000 in
theorem SX7_sweepOnce_0 : (∀ (l0 l1 l2 : Option Value) (st : List Value) (σ : dS), den mX7_sweepOnce 0 [l0, l1, l2] st σ = den mX7_sweepOnce 1 [l0, l1, l2] (.int (nI 0) :: st) σ) ∧
  (∀ (l1 l2 : Option Value) (x : Int32) (y : Nat) (st : List Value) (σ : dS), den mX7_sweepOnce 1 [some (.ref y), l1, l2] (.int x :: st) σ = den mX7_sweepOnce 2 [some (.ref y), some (.int x), l2] st σ) ∧
  (∀ (l0 l1 l2 : Option Value) (st : List Value) (σ : dS), den mX7_sweepOnce 2 [l0, l1, l2] st σ = den mX7_sweepOnce 3 [l0, l1, l2] (.int (nI 0) :: st) σ) ∧
  (∀ (l0 l2 : Option Value) (x : Int32) (y : Int32) (st : List Value) (σ : dS), den mX7_sweepOnce 3 [l0, some (.int y), l2] (.int x :: st) σ = den mX7_sweepOnce 4 [l0, some (.int y), some (.int x)] st σ) ∧
  (∀ (l1 l2 : Option Value) (x : Nat) (st : List Value) (σ : dS), den mX7_sweepOnce 5 [some (.ref x), l1, l2] st σ = den mX7_sweepOnce 6 [some (.ref x), l1, l2] (.ref x :: st) σ) ∧
  (∀ (l0 l1 l2 : Option Value) (q : Nat) (st : List Value) (σ : dS), den mX7_sweepOnce 6 [l0, l1, l2] (.ref q :: st) σ = (dget σ q 6 0).bind fun v => den mX7_sweepOnce 9 [l0, l1, l2] (v :: st) σ) ∧
  (∀ (l0 l1 l2 : Option Value) (st : List Value) (σ : dS), den mX7_sweepOnce 9 [l0, l1, l2] st σ = den mX7_sweepOnce 11 [l0, l1, l2] (.int (nI 120) :: st) σ) ∧
  (∀ (l0 l1 l2 : Option Value) (q : Nat) (i : Int32) (st : List Value) (σ : dS), den mX7_sweepOnce 11 [l0, l1, l2] (.int i :: .ref q :: st) σ = if q ≤ dN then (dald σ q 0 i).bind (fun v => den mX7_sweepOnce 12 [l0, l1, l2] (.int v :: st) σ) else none) ∧
  (∀ (l0 l1 l2 : Option Value) (x y : Int32) (st : List Value) (σ : dS), den mX7_sweepOnce 12 [l0, l1, l2] (.int y :: .int x :: st) σ = if x < y then den mX7_sweepOnce 15 [l0, l1, l2] st σ else den mX7_sweepOnce 62 [l0, l1, l2] st σ) ∧
  (∀ (l1 l2 : Option Value) (x : Nat) (st : List Value) (σ : dS), den mX7_sweepOnce 15 [some (.ref x), l1, l2] st σ = den mX7_sweepOnce 16 [some (.ref x), l1, l2] (.ref x :: st) σ) ∧
  (∀ (l0 l1 l2 : Option Value) (q : Nat) (st : List Value) (σ : dS), den mX7_sweepOnce 16 [l0, l1, l2] (.ref q :: st) σ = (dget σ q 6 28).bind fun v => den mX7_sweepOnce 19 [l0, l1, l2] (v :: st) σ) ∧
  (∀ (l0 l1 : Option Value) (x : Int32) (st : List Value) (σ : dS), den mX7_sweepOnce 19 [l0, l1, some (.int x)] st σ = den mX7_sweepOnce 20 [l0, l1, some (.int x)] (.int x :: st) σ) ∧
  (∀ (l1 l2 : Option Value) (x : Nat) (st : List Value) (σ : dS), den mX7_sweepOnce 20 [some (.ref x), l1, l2] st σ = den mX7_sweepOnce 21 [some (.ref x), l1, l2] (.ref x :: st) σ) ∧
  (∀ (l0 l1 : Option Value) (x : Int32) (st : List Value) (σ : dS), den mX7_sweepOnce 21 [l0, l1, some (.int x)] st σ = den mX7_sweepOnce 22 [l0, l1, some (.int x)] (.int x :: st) σ) ∧
  (∀ (l0 l1 l2 : Option Value) (st : List Value) (σ : dS), den mX7_sweepOnce 22 [l0, l1, l2] st σ = den mX7_sweepOnce 23 [l0, l1, l2] (.int (nI 0) :: st) σ) ∧
  (∀ (l0 l1 l2 : Option Value) (a0 : Int32) (a1 : Int32) (b0 : Int32) (b1 : Nat) (q : Nat) (σ : dS), den mX7_sweepOnce 23 [l0, l1, l2] [.int a1, .int a0, .ref q, .int b0, .ref b1] σ = if disO σ q 6 = true then ((dcall mX7_of [.ref q, .int a0, .int a1] σ).bind fun r => den mX7_sweepOnce 26 [l0, l1, l2] (r.1.toList ++ [.int b0, .ref b1]) r.2) else none) ∧
  (∀ (l0 l1 l2 : Option Value) (st : List Value) (σ : dS), den mX7_sweepOnce 26 [l0, l1, l2] st σ = den mX7_sweepOnce 27 [l0, l1, l2] (.int (nI 4) :: st) σ) ∧
  (∀ (l0 l1 l2 : Option Value) (x y : Int32) (st : List Value) (σ : dS), den mX7_sweepOnce 27 [l0, l1, l2] (.int y :: .int x :: st) σ = if x < y then den mX7_sweepOnce 30 [l0, l1, l2] st σ else den mX7_sweepOnce 42 [l0, l1, l2] st σ) ∧
  (∀ (l1 l2 : Option Value) (x : Nat) (st : List Value) (σ : dS), den mX7_sweepOnce 30 [some (.ref x), l1, l2] st σ = den mX7_sweepOnce 31 [some (.ref x), l1, l2] (.ref x :: st) σ) ∧
  (∀ (l0 l1 : Option Value) (x : Int32) (st : List Value) (σ : dS), den mX7_sweepOnce 31 [l0, l1, some (.int x)] st σ = den mX7_sweepOnce 32 [l0, l1, some (.int x)] (.int x :: st) σ) ∧
  (∀ (l0 l1 l2 : Option Value) (a0 : Int32) (b0 : Int32) (b1 : Nat) (q : Nat) (σ : dS), den mX7_sweepOnce 32 [l0, l1, l2] [.int a0, .ref q, .int b0, .ref b1] σ = if disO σ q 6 = true then ((dcall mX7_isLive [.ref q, .int a0] σ).bind fun r => den mX7_sweepOnce 35 [l0, l1, l2] (r.1.toList ++ [.int b0, .ref b1]) r.2) else none) ∧
  (∀ (l0 l1 l2 : Option Value) (x : Int32) (st : List Value) (σ : dS), den mX7_sweepOnce 35 [l0, l1, l2] (.int x :: st) σ = if x = 0 then den mX7_sweepOnce 38 [l0, l1, l2] st σ else den mX7_sweepOnce 42 [l0, l1, l2] st σ) ∧
  (∀ (l0 l1 l2 : Option Value) (st : List Value) (σ : dS), den mX7_sweepOnce 38 [l0, l1, l2] st σ = den mX7_sweepOnce 39 [l0, l1, l2] (.int (nI 1) :: st) σ) ∧
  (∀ (l0 l1 l2 : Option Value) (st : List Value) (σ : dS), den mX7_sweepOnce 39 [l0, l1, l2] st σ = den mX7_sweepOnce 43 [l0, l1, l2] st σ) ∧
  (∀ (l0 l1 l2 : Option Value) (st : List Value) (σ : dS), den mX7_sweepOnce 42 [l0, l1, l2] st σ = den mX7_sweepOnce 43 [l0, l1, l2] (.int (nI 0) :: st) σ) ∧
  (∀ (l0 l1 l2 : Option Value) (q : Nat) (i x : Int32) (st : List Value) (σ : dS), den mX7_sweepOnce 43 [l0, l1, l2] (.int x :: .int i :: .ref q :: st) σ = (dbst σ q i x).bind fun τ => den mX7_sweepOnce 44 [l0, l1, l2] st τ) ∧
  (∀ (l0 l2 : Option Value) (x : Int32) (st : List Value) (σ : dS), den mX7_sweepOnce 44 [l0, some (.int x), l2] st σ = den mX7_sweepOnce 45 [l0, some (.int x), l2] (.int x :: st) σ) ∧
  (∀ (l1 l2 : Option Value) (x : Nat) (st : List Value) (σ : dS), den mX7_sweepOnce 45 [some (.ref x), l1, l2] st σ = den mX7_sweepOnce 46 [some (.ref x), l1, l2] (.ref x :: st) σ) ∧
  (∀ (l0 l1 l2 : Option Value) (q : Nat) (st : List Value) (σ : dS), den mX7_sweepOnce 46 [l0, l1, l2] (.ref q :: st) σ = (dget σ q 6 28).bind fun v => den mX7_sweepOnce 49 [l0, l1, l2] (v :: st) σ) ∧
  (∀ (l0 l1 : Option Value) (x : Int32) (st : List Value) (σ : dS), den mX7_sweepOnce 49 [l0, l1, some (.int x)] st σ = den mX7_sweepOnce 50 [l0, l1, some (.int x)] (.int x :: st) σ) ∧
  (∀ (l0 l1 l2 : Option Value) (q : Nat) (i : Int32) (st : List Value) (σ : dS), den mX7_sweepOnce 50 [l0, l1, l2] (.int i :: .ref q :: st) σ = (dbld σ q i).bind fun v => den mX7_sweepOnce 51 [l0, l1, l2] (.int v :: st) σ) ∧
  (∀ (l0 l1 l2 : Option Value) (a0 : Int32) (b0 : Int32) (σ : dS), den mX7_sweepOnce 51 [l0, l1, l2] [.int a0, .int b0] σ = (dcall mX7_flag [.int a0] σ).bind fun r => den mX7_sweepOnce 54 [l0, l1, l2] (r.1.toList ++ [.int b0]) r.2) ∧
  (∀ (l0 l1 l2 : Option Value) (x y : Int32) (st : List Value) (σ : dS), den mX7_sweepOnce 54 [l0, l1, l2] (.int y :: .int x :: st) σ = den mX7_sweepOnce 55 [l0, l1, l2] (.int (x + y) :: st) σ) ∧
  (∀ (l1 l2 : Option Value) (x : Int32) (y : Nat) (st : List Value) (σ : dS), den mX7_sweepOnce 55 [some (.ref y), l1, l2] (.int x :: st) σ = den mX7_sweepOnce 56 [some (.ref y), some (.int x), l2] st σ) ∧
  (∀ (l0 : Option Value) (x : Int32) (y : Int32) (st : List Value) (σ : dS), den mX7_sweepOnce 56 [l0, some (.int y), some (.int x)] st σ = den mX7_sweepOnce 59 [l0, some (.int y), some (.int (x + nI 1))] st σ) ∧
  (∀ (l0 l1 l2 : Option Value) (st : List Value) (σ : dS), den mX7_sweepOnce 59 [l0, l1, l2] st σ = den mX7_sweepOnce 4 [l0, l1, l2] st σ) ∧
  (∀ (l1 l2 : Option Value) (x : Nat) (st : List Value) (σ : dS), den mX7_sweepOnce 62 [some (.ref x), l1, l2] st σ = den mX7_sweepOnce 63 [some (.ref x), l1, l2] (.ref x :: st) σ) ∧
  (∀ (l0 l1 l2 : Option Value) (q : Nat) (st : List Value) (σ : dS), den mX7_sweepOnce 63 [l0, l1, l2] (.ref q :: st) σ = (dget σ q 6 0).bind fun v => den mX7_sweepOnce 66 [l0, l1, l2] (v :: st) σ) ∧
  (∀ (l0 l1 l2 : Option Value) (st : List Value) (σ : dS), den mX7_sweepOnce 66 [l0, l1, l2] st σ = den mX7_sweepOnce 68 [l0, l1, l2] (.int (nI 120) :: st) σ) ∧
  (∀ (l0 l1 l2 : Option Value) (q : Nat) (i : Int32) (st : List Value) (σ : dS), den mX7_sweepOnce 68 [l0, l1, l2] (.int i :: .ref q :: st) σ = if q ≤ dN then (dald σ q 0 i).bind (fun v => den mX7_sweepOnce 69 [l0, l1, l2] (.int v :: st) σ) else none) :=
  ⟨fun l0 l1 l2 st σ => dn_iconst eX7_sweepOnce dX7_sweepOnce_0 kc_iconst_0,
  fun l1 l2 x y st σ => dn_istore_n eX7_sweepOnce dX7_sweepOnce_1 rfl,
  fun l0 l1 l2 st σ => dn_iconst eX7_sweepOnce dX7_sweepOnce_2 kc_iconst_0,
  fun l0 l2 x y st σ => dn_istore_n eX7_sweepOnce dX7_sweepOnce_3 rfl,
  fun l1 l2 x st σ => dn_aload_n eX7_sweepOnce dX7_sweepOnce_5 rfl,
  fun l0 l1 l2 q st σ => dn_getfield (f := (6, 0, 771)) eX7_sweepOnce dX7_sweepOnce_6 (by decide +kernel),
  fun l0 l1 l2 st σ => dn_bipush eX7_sweepOnce dX7_sweepOnce_9 kc_bipush_120,
  fun l0 l1 l2 q i st σ => dn_iaload eX7_sweepOnce dX7_sweepOnce_11,
  fun l0 l1 l2 x y st σ => dn_icmp_ge eX7_sweepOnce dX7_sweepOnce_12 (by decide),
  fun l1 l2 x st σ => dn_aload_n eX7_sweepOnce dX7_sweepOnce_15 rfl,
  fun l0 l1 l2 q st σ => dn_getfield (f := (6, 28, 799)) eX7_sweepOnce dX7_sweepOnce_16 (by decide +kernel),
  fun l0 l1 x st σ => dn_iload_n eX7_sweepOnce dX7_sweepOnce_19 rfl,
  fun l1 l2 x st σ => dn_aload_n eX7_sweepOnce dX7_sweepOnce_20 rfl,
  fun l0 l1 x st σ => dn_iload_n eX7_sweepOnce dX7_sweepOnce_21 rfl,
  fun l0 l1 l2 st σ => dn_iconst eX7_sweepOnce dX7_sweepOnce_22 kc_iconst_0,
  fun l0 l1 l2 a0 a1 b0 b1 q σ => rX7_sweepOnce_23 l0 l1 l2 a0 a1 b0 b1 q σ,
  fun l0 l1 l2 st σ => dn_iconst eX7_sweepOnce dX7_sweepOnce_26 kc_iconst_4,
  fun l0 l1 l2 x y st σ => dn_icmp_ge eX7_sweepOnce dX7_sweepOnce_27 (by decide),
  fun l1 l2 x st σ => dn_aload_n eX7_sweepOnce dX7_sweepOnce_30 rfl,
  fun l0 l1 x st σ => dn_iload_n eX7_sweepOnce dX7_sweepOnce_31 rfl,
  fun l0 l1 l2 a0 b0 b1 q σ => rX7_sweepOnce_32 l0 l1 l2 a0 b0 b1 q σ,
  fun l0 l1 l2 x st σ => dn_if_ne eX7_sweepOnce dX7_sweepOnce_35 (by decide),
  fun l0 l1 l2 st σ => dn_iconst eX7_sweepOnce dX7_sweepOnce_38 kc_iconst_1,
  fun l0 l1 l2 st σ => dn_goto eX7_sweepOnce dX7_sweepOnce_39 (by decide),
  fun l0 l1 l2 st σ => dn_iconst eX7_sweepOnce dX7_sweepOnce_42 kc_iconst_0,
  fun l0 l1 l2 q i x st σ => dn_bastore eX7_sweepOnce dX7_sweepOnce_43,
  fun l0 l2 x st σ => dn_iload_n eX7_sweepOnce dX7_sweepOnce_44 rfl,
  fun l1 l2 x st σ => dn_aload_n eX7_sweepOnce dX7_sweepOnce_45 rfl,
  fun l0 l1 l2 q st σ => dn_getfield (f := (6, 28, 799)) eX7_sweepOnce dX7_sweepOnce_46 (by decide +kernel),
  fun l0 l1 x st σ => dn_iload_n eX7_sweepOnce dX7_sweepOnce_49 rfl,
  fun l0 l1 l2 q i st σ => dn_baload eX7_sweepOnce dX7_sweepOnce_50,
  fun l0 l1 l2 a0 b0 σ => dn_callS (e := (1, 103, 951)) (as := [.int a0]) (rest := [.int b0]) eX7_sweepOnce dX7_sweepOnce_51 (by decide +kernel) (Or.inl rfl) (by decide +kernel) rfl (dcat_le rfl) (dlen_le rfl) rfl,
  fun l0 l1 l2 x y st σ => dn_iadd eX7_sweepOnce dX7_sweepOnce_54,
  fun l1 l2 x y st σ => dn_istore_n eX7_sweepOnce dX7_sweepOnce_55 rfl,
  fun l0 x y st σ => dn_iinc (v := nI 1) eX7_sweepOnce dX7_sweepOnce_56 rfl kc_iconst_1 rfl,
  fun l0 l1 l2 st σ => dn_goto eX7_sweepOnce dX7_sweepOnce_59 (by decide),
  fun l1 l2 x st σ => dn_aload_n eX7_sweepOnce dX7_sweepOnce_62 rfl,
  fun l0 l1 l2 q st σ => dn_getfield (f := (6, 0, 771)) eX7_sweepOnce dX7_sweepOnce_63 (by decide +kernel),
  fun l0 l1 l2 st σ => dn_bipush eX7_sweepOnce dX7_sweepOnce_66 kc_bipush_120,
  fun l0 l1 l2 q i st σ => dn_iaload eX7_sweepOnce dX7_sweepOnce_68⟩
set_option maxRecDepth 20000 in
theorem SX7_sweepOnce_1 : (∀ (l0 l1 l2 : Option Value) (st : List Value) (σ : dS), den mX7_sweepOnce 69 [l0, l1, l2] st σ = den mX7_sweepOnce 70 [l0, l1, l2] (.int (nI 1) :: st) σ) ∧
  (∀ (l0 l1 l2 : Option Value) (x y : Int32) (st : List Value) (σ : dS), den mX7_sweepOnce 70 [l0, l1, l2] (.int y :: .int x :: st) σ = den mX7_sweepOnce 71 [l0, l1, l2] (.int (x - y) :: st) σ) ∧
  (∀ (l0 l2 : Option Value) (x : Int32) (y : Int32) (st : List Value) (σ : dS), den mX7_sweepOnce 71 [l0, some (.int y), l2] (.int x :: st) σ = den mX7_sweepOnce 72 [l0, some (.int y), some (.int x)] st σ) ∧
  (∀ (l0 l1 l2 : Option Value) (x : Int32) (st : List Value) (σ : dS), den mX7_sweepOnce 73 [l0, l1, l2] (.int x :: st) σ = if x < 0 then den mX7_sweepOnce 96 [l0, l1, l2] st σ else den mX7_sweepOnce 76 [l0, l1, l2] st σ) ∧
  (∀ (l1 l2 : Option Value) (x : Nat) (st : List Value) (σ : dS), den mX7_sweepOnce 76 [some (.ref x), l1, l2] st σ = den mX7_sweepOnce 77 [some (.ref x), l1, l2] (.ref x :: st) σ) ∧
  (∀ (l0 l1 l2 : Option Value) (q : Nat) (st : List Value) (σ : dS), den mX7_sweepOnce 77 [l0, l1, l2] (.ref q :: st) σ = (dget σ q 6 28).bind fun v => den mX7_sweepOnce 80 [l0, l1, l2] (v :: st) σ) ∧
  (∀ (l0 l1 : Option Value) (x : Int32) (st : List Value) (σ : dS), den mX7_sweepOnce 80 [l0, l1, some (.int x)] st σ = den mX7_sweepOnce 81 [l0, l1, some (.int x)] (.int x :: st) σ) ∧
  (∀ (l0 l1 l2 : Option Value) (q : Nat) (i : Int32) (st : List Value) (σ : dS), den mX7_sweepOnce 81 [l0, l1, l2] (.int i :: .ref q :: st) σ = (dbld σ q i).bind fun v => den mX7_sweepOnce 82 [l0, l1, l2] (.int v :: st) σ) ∧
  (∀ (l0 l1 l2 : Option Value) (x : Int32) (st : List Value) (σ : dS), den mX7_sweepOnce 82 [l0, l1, l2] (.int x :: st) σ = if x = 0 then den mX7_sweepOnce 90 [l0, l1, l2] st σ else den mX7_sweepOnce 85 [l0, l1, l2] st σ) ∧
  (∀ (l1 l2 : Option Value) (x : Nat) (st : List Value) (σ : dS), den mX7_sweepOnce 85 [some (.ref x), l1, l2] st σ = den mX7_sweepOnce 86 [some (.ref x), l1, l2] (.ref x :: st) σ) ∧
  (∀ (l0 l1 : Option Value) (x : Int32) (st : List Value) (σ : dS), den mX7_sweepOnce 86 [l0, l1, some (.int x)] st σ = den mX7_sweepOnce 87 [l0, l1, some (.int x)] (.int x :: st) σ) ∧
  (∀ (l0 l1 l2 : Option Value) (a0 : Int32) (q : Nat) (σ : dS), den mX7_sweepOnce 87 [l0, l1, l2] [.int a0, .ref q] σ = if disO σ q 6 = true then ((dcall mX7_codeGoes [.ref q, .int a0] σ).bind fun r => den mX7_sweepOnce 90 [l0, l1, l2] (r.1.toList ++ []) r.2) else none) ∧
  (∀ (l0 : Option Value) (x : Int32) (y : Int32) (st : List Value) (σ : dS), den mX7_sweepOnce 90 [l0, some (.int y), some (.int x)] st σ = den mX7_sweepOnce 93 [l0, some (.int y), some (.int (x + (-1)))] st σ) ∧
  (∀ (l0 l1 l2 : Option Value) (st : List Value) (σ : dS), den mX7_sweepOnce 93 [l0, l1, l2] st σ = den mX7_sweepOnce 72 [l0, l1, l2] st σ) ∧
  (∀ (l0 l2 : Option Value) (x : Int32) (st : List Value) (σ : dS), den mX7_sweepOnce 96 [l0, some (.int x), l2] st σ = den mX7_sweepOnce 97 [l0, some (.int x), l2] (.int x :: st) σ) ∧
  (∀ (l0 l1 l2 : Option Value) (v : Int32) (σ : dS), den mX7_sweepOnce 97 [l0, l1, l2] [.int v] σ = some (some (.int v), σ)) :=
  ⟨fun l0 l1 l2 st σ => dn_iconst eX7_sweepOnce dX7_sweepOnce_69 kc_iconst_1,
  fun l0 l1 l2 x y st σ => dn_isub eX7_sweepOnce dX7_sweepOnce_70,
  fun l0 l2 x y st σ => dn_istore_n eX7_sweepOnce dX7_sweepOnce_71 rfl,
  fun l0 l1 l2 x st σ => dn_if_lt eX7_sweepOnce dX7_sweepOnce_73 (by decide),
  fun l1 l2 x st σ => dn_aload_n eX7_sweepOnce dX7_sweepOnce_76 rfl,
  fun l0 l1 l2 q st σ => dn_getfield (f := (6, 28, 799)) eX7_sweepOnce dX7_sweepOnce_77 (by decide +kernel),
  fun l0 l1 x st σ => dn_iload_n eX7_sweepOnce dX7_sweepOnce_80 rfl,
  fun l0 l1 l2 q i st σ => dn_baload eX7_sweepOnce dX7_sweepOnce_81,
  fun l0 l1 l2 x st σ => dn_if_eq eX7_sweepOnce dX7_sweepOnce_82 (by decide),
  fun l1 l2 x st σ => dn_aload_n eX7_sweepOnce dX7_sweepOnce_85 rfl,
  fun l0 l1 x st σ => dn_iload_n eX7_sweepOnce dX7_sweepOnce_86 rfl,
  fun l0 l1 l2 a0 q σ => rX7_sweepOnce_87 l0 l1 l2 a0 q σ,
  fun l0 x y st σ => dn_iinc (v := (-1)) eX7_sweepOnce dX7_sweepOnce_90 rfl kc_iconst_m1 rfl,
  fun l0 l1 l2 st σ => dn_goto eX7_sweepOnce dX7_sweepOnce_93 (by decide),
  fun l0 l2 x st σ => dn_iload_n eX7_sweepOnce dX7_sweepOnce_96 rfl,
  fun l0 l1 l2 v σ => dn_ireturn eX7_sweepOnce dX7_sweepOnce_97 rfl⟩
theorem CX7_sweep (a0 : Nat) (σ : dS) : dcall mX7_sweep [.ref a0] σ = den mX7_sweep 0 [some (.ref a0), none, none] [] σ := dcall_den (by decide) rfl
theorem rX7_sweep_3 (l0 l1 l2 : Option Value) (q : Nat) (σ : dS) : den mX7_sweep 3 [l0, l1, l2] [.ref q] σ = if disO σ q 6 = true then ((dcall mX7_sweepOnce [.ref q] σ).bind fun r => den mX7_sweep 6 [l0, l1, l2] (r.1.toList ++ []) r.2) else none := by
  by_cases h : disO σ q 6 = true
  · rw [if_pos h]; exact dn_callV (e := (0, 168, 1140)) (as := []) (rest := []) eX7_sweep dX7_sweep_3 (by decide +kernel) rfl (by decide +kernel) rfl (dcat_le rfl) (dlen_le rfl) rfl h
  · rw [if_neg h]; exact den_noV (e := (0, 168, 1140)) (as := []) (rest := []) eX7_sweep dX7_sweep_3 (by decide +kernel) rfl rfl rfl h
theorem hX7_sweep_7 (l0 l1 : Option Value) (x : Int32) (st : List Value) (σ : dS) : den mX7_sweep 7 [l0, l1, some (.int x)] st σ = den mX7_sweep 8 [l0, l1, some (.int x)] (.int x :: st) σ := dn_iload_n eX7_sweep dX7_sweep_7 rfl
theorem rX7_sweep_16 (l0 l1 l2 : Option Value) (q : Nat) (σ : dS) : den mX7_sweep 16 [l0, l1, l2] [.ref q] σ = if disO σ q 6 = true then ((dcall mX7_sweepOnce [.ref q] σ).bind fun r => den mX7_sweep 19 [l0, l1, l2] (r.1.toList ++ []) r.2) else none := by
  by_cases h : disO σ q 6 = true
  · rw [if_pos h]; exact dn_callV (e := (0, 168, 1140)) (as := []) (rest := []) eX7_sweep dX7_sweep_16 (by decide +kernel) rfl (by decide +kernel) rfl (dcat_le rfl) (dlen_le rfl) rfl h
  · rw [if_neg h]; exact den_noV (e := (0, 168, 1140)) (as := []) (rest := []) eX7_sweep dX7_sweep_16 (by decide +kernel) rfl rfl rfl h
set_option maxRecDepth 20000 in
theorem SX7_sweep : (∀ (l0 l1 l2 : Option Value) (st : List Value) (σ : dS), den mX7_sweep 0 [l0, l1, l2] st σ = den mX7_sweep 1 [l0, l1, l2] (.int (nI 0) :: st) σ) ∧
  (∀ (l1 l2 : Option Value) (x : Int32) (y : Nat) (st : List Value) (σ : dS), den mX7_sweep 1 [some (.ref y), l1, l2] (.int x :: st) σ = den mX7_sweep 2 [some (.ref y), some (.int x), l2] st σ) ∧
  (∀ (l1 l2 : Option Value) (x : Nat) (st : List Value) (σ : dS), den mX7_sweep 2 [some (.ref x), l1, l2] st σ = den mX7_sweep 3 [some (.ref x), l1, l2] (.ref x :: st) σ) ∧
  (∀ (l0 l1 l2 : Option Value) (q : Nat) (σ : dS), den mX7_sweep 3 [l0, l1, l2] [.ref q] σ = if disO σ q 6 = true then ((dcall mX7_sweepOnce [.ref q] σ).bind fun r => den mX7_sweep 6 [l0, l1, l2] (r.1.toList ++ []) r.2) else none) ∧
  (∀ (l0 l2 : Option Value) (x : Int32) (y : Int32) (st : List Value) (σ : dS), den mX7_sweep 6 [l0, some (.int y), l2] (.int x :: st) σ = den mX7_sweep 7 [l0, some (.int y), some (.int x)] st σ) ∧
  (∀ (l0 l1 l2 : Option Value) (x : Int32) (st : List Value) (σ : dS), den mX7_sweep 8 [l0, l1, l2] (.int x :: st) σ = if 0 < x then den mX7_sweep 11 [l0, l1, l2] st σ else den mX7_sweep 23 [l0, l1, l2] st σ) ∧
  (∀ (l0 l2 : Option Value) (x : Int32) (st : List Value) (σ : dS), den mX7_sweep 11 [l0, some (.int x), l2] st σ = den mX7_sweep 12 [l0, some (.int x), l2] (.int x :: st) σ) ∧
  (∀ (l0 l1 : Option Value) (x : Int32) (st : List Value) (σ : dS), den mX7_sweep 12 [l0, l1, some (.int x)] st σ = den mX7_sweep 13 [l0, l1, some (.int x)] (.int x :: st) σ) ∧
  (∀ (l0 l1 l2 : Option Value) (x y : Int32) (st : List Value) (σ : dS), den mX7_sweep 13 [l0, l1, l2] (.int y :: .int x :: st) σ = den mX7_sweep 14 [l0, l1, l2] (.int (x + y) :: st) σ) ∧
  (∀ (l1 l2 : Option Value) (x : Int32) (y : Nat) (st : List Value) (σ : dS), den mX7_sweep 14 [some (.ref y), l1, l2] (.int x :: st) σ = den mX7_sweep 15 [some (.ref y), some (.int x), l2] st σ) ∧
  (∀ (l1 l2 : Option Value) (x : Nat) (st : List Value) (σ : dS), den mX7_sweep 15 [some (.ref x), l1, l2] st σ = den mX7_sweep 16 [some (.ref x), l1, l2] (.ref x :: st) σ) ∧
  (∀ (l0 l1 l2 : Option Value) (q : Nat) (σ : dS), den mX7_sweep 16 [l0, l1, l2] [.ref q] σ = if disO σ q 6 = true then ((dcall mX7_sweepOnce [.ref q] σ).bind fun r => den mX7_sweep 19 [l0, l1, l2] (r.1.toList ++ []) r.2) else none) ∧
  (∀ (l0 l2 : Option Value) (x : Int32) (y : Int32) (st : List Value) (σ : dS), den mX7_sweep 19 [l0, some (.int y), l2] (.int x :: st) σ = den mX7_sweep 20 [l0, some (.int y), some (.int x)] st σ) ∧
  (∀ (l0 l1 l2 : Option Value) (st : List Value) (σ : dS), den mX7_sweep 20 [l0, l1, l2] st σ = den mX7_sweep 7 [l0, l1, l2] st σ) ∧
  (∀ (l0 l2 : Option Value) (x : Int32) (st : List Value) (σ : dS), den mX7_sweep 23 [l0, some (.int x), l2] st σ = den mX7_sweep 24 [l0, some (.int x), l2] (.int x :: st) σ) ∧
  (∀ (l0 l1 l2 : Option Value) (v : Int32) (σ : dS), den mX7_sweep 24 [l0, l1, l2] [.int v] σ = some (some (.int v), σ)) :=
  ⟨fun l0 l1 l2 st σ => dn_iconst eX7_sweep dX7_sweep_0 kc_iconst_0,
  fun l1 l2 x y st σ => dn_istore_n eX7_sweep dX7_sweep_1 rfl,
  fun l1 l2 x st σ => dn_aload_n eX7_sweep dX7_sweep_2 rfl,
  fun l0 l1 l2 q σ => rX7_sweep_3 l0 l1 l2 q σ,
  fun l0 l2 x y st σ => dn_istore_n eX7_sweep dX7_sweep_6 rfl,
  fun l0 l1 l2 x st σ => dn_if_le eX7_sweep dX7_sweep_8 (by decide),
  fun l0 l2 x st σ => dn_iload_n eX7_sweep dX7_sweep_11 rfl,
  fun l0 l1 x st σ => dn_iload_n eX7_sweep dX7_sweep_12 rfl,
  fun l0 l1 l2 x y st σ => dn_iadd eX7_sweep dX7_sweep_13,
  fun l1 l2 x y st σ => dn_istore_n eX7_sweep dX7_sweep_14 rfl,
  fun l1 l2 x st σ => dn_aload_n eX7_sweep dX7_sweep_15 rfl,
  fun l0 l1 l2 q σ => rX7_sweep_16 l0 l1 l2 q σ,
  fun l0 l2 x y st σ => dn_istore_n eX7_sweep dX7_sweep_19 rfl,
  fun l0 l1 l2 st σ => dn_goto eX7_sweep dX7_sweep_20 (by decide),
  fun l0 l2 x st σ => dn_iload_n eX7_sweep dX7_sweep_23 rfl,
  fun l0 l1 l2 v σ => dn_ireturn eX7_sweep dX7_sweep_24 rfl⟩
theorem CX7_firstUnder (a0 : Nat) (a1 : Int32) (σ : dS) : dcall mX7_firstUnder [.ref a0, .int a1] σ = den mX7_firstUnder 0 [some (.ref a0), some (.int a1), none] [] σ := dcall_den (by decide) rfl
theorem hX7_firstUnder_2 (l0 l1 : Option Value) (x : Int32) (st : List Value) (σ : dS) : den mX7_firstUnder 2 [l0, l1, some (.int x)] st σ = den mX7_firstUnder 3 [l0, l1, some (.int x)] (.int x :: st) σ := dn_iload_n eX7_firstUnder dX7_firstUnder_2 rfl
theorem rX7_firstUnder_16 (l0 l1 l2 : Option Value) (a0 : Int32) (a1 : Int32) (q : Nat) (σ : dS) : den mX7_firstUnder 16 [l0, l1, l2] [.int a1, .int a0, .ref q] σ = if disO σ q 6 = true then ((dcall mX7_of [.ref q, .int a0, .int a1] σ).bind fun r => den mX7_firstUnder 19 [l0, l1, l2] (r.1.toList ++ []) r.2) else none := by
  by_cases h : disO σ q 6 = true
  · rw [if_pos h]; exact dn_callV (e := (0, 120, 947)) (as := [.int a0, .int a1]) (rest := []) eX7_firstUnder dX7_firstUnder_16 (by decide +kernel) rfl (by decide +kernel) rfl (dcat_le rfl) (dlen_le rfl) rfl h
  · rw [if_neg h]; exact den_noV (e := (0, 120, 947)) (as := [.int a0, .int a1]) (rest := []) eX7_firstUnder dX7_firstUnder_16 (by decide +kernel) rfl rfl rfl h
set_option maxRecDepth 20000 in
theorem SX7_firstUnder : (∀ (l0 l1 l2 : Option Value) (st : List Value) (σ : dS), den mX7_firstUnder 0 [l0, l1, l2] st σ = den mX7_firstUnder 1 [l0, l1, l2] (.int (nI 0) :: st) σ) ∧
  (∀ (l0 l2 : Option Value) (x : Int32) (y : Int32) (st : List Value) (σ : dS), den mX7_firstUnder 1 [l0, some (.int y), l2] (.int x :: st) σ = den mX7_firstUnder 2 [l0, some (.int y), some (.int x)] st σ) ∧
  (∀ (l1 l2 : Option Value) (x : Nat) (st : List Value) (σ : dS), den mX7_firstUnder 3 [some (.ref x), l1, l2] st σ = den mX7_firstUnder 4 [some (.ref x), l1, l2] (.ref x :: st) σ) ∧
  (∀ (l0 l1 l2 : Option Value) (q : Nat) (st : List Value) (σ : dS), den mX7_firstUnder 4 [l0, l1, l2] (.ref q :: st) σ = (dget σ q 6 0).bind fun v => den mX7_firstUnder 7 [l0, l1, l2] (v :: st) σ) ∧
  (∀ (l0 l1 l2 : Option Value) (st : List Value) (σ : dS), den mX7_firstUnder 7 [l0, l1, l2] st σ = den mX7_firstUnder 9 [l0, l1, l2] (.int (nI 120) :: st) σ) ∧
  (∀ (l0 l1 l2 : Option Value) (q : Nat) (i : Int32) (st : List Value) (σ : dS), den mX7_firstUnder 9 [l0, l1, l2] (.int i :: .ref q :: st) σ = if q ≤ dN then (dald σ q 0 i).bind (fun v => den mX7_firstUnder 10 [l0, l1, l2] (.int v :: st) σ) else none) ∧
  (∀ (l0 l1 l2 : Option Value) (x y : Int32) (st : List Value) (σ : dS), den mX7_firstUnder 10 [l0, l1, l2] (.int y :: .int x :: st) σ = if x < y then den mX7_firstUnder 13 [l0, l1, l2] st σ else den mX7_firstUnder 31 [l0, l1, l2] st σ) ∧
  (∀ (l1 l2 : Option Value) (x : Nat) (st : List Value) (σ : dS), den mX7_firstUnder 13 [some (.ref x), l1, l2] st σ = den mX7_firstUnder 14 [some (.ref x), l1, l2] (.ref x :: st) σ) ∧
  (∀ (l0 l1 : Option Value) (x : Int32) (st : List Value) (σ : dS), den mX7_firstUnder 14 [l0, l1, some (.int x)] st σ = den mX7_firstUnder 15 [l0, l1, some (.int x)] (.int x :: st) σ) ∧
  (∀ (l0 l1 l2 : Option Value) (st : List Value) (σ : dS), den mX7_firstUnder 15 [l0, l1, l2] st σ = den mX7_firstUnder 16 [l0, l1, l2] (.int (nI 4) :: st) σ) ∧
  (∀ (l0 l1 l2 : Option Value) (a0 : Int32) (a1 : Int32) (q : Nat) (σ : dS), den mX7_firstUnder 16 [l0, l1, l2] [.int a1, .int a0, .ref q] σ = if disO σ q 6 = true then ((dcall mX7_of [.ref q, .int a0, .int a1] σ).bind fun r => den mX7_firstUnder 19 [l0, l1, l2] (r.1.toList ++ []) r.2) else none) ∧
  (∀ (l0 l2 : Option Value) (x : Int32) (st : List Value) (σ : dS), den mX7_firstUnder 19 [l0, some (.int x), l2] st σ = den mX7_firstUnder 20 [l0, some (.int x), l2] (.int x :: st) σ) ∧
  (∀ (l0 l1 l2 : Option Value) (x y : Int32) (st : List Value) (σ : dS), den mX7_firstUnder 20 [l0, l1, l2] (.int y :: .int x :: st) σ = if x = y then den mX7_firstUnder 23 [l0, l1, l2] st σ else den mX7_firstUnder 25 [l0, l1, l2] st σ) ∧
  (∀ (l0 l1 : Option Value) (x : Int32) (st : List Value) (σ : dS), den mX7_firstUnder 23 [l0, l1, some (.int x)] st σ = den mX7_firstUnder 24 [l0, l1, some (.int x)] (.int x :: st) σ) ∧
  (∀ (l0 l1 l2 : Option Value) (v : Int32) (σ : dS), den mX7_firstUnder 24 [l0, l1, l2] [.int v] σ = some (some (.int v), σ)) ∧
  (∀ (l0 : Option Value) (x : Int32) (y : Int32) (st : List Value) (σ : dS), den mX7_firstUnder 25 [l0, some (.int y), some (.int x)] st σ = den mX7_firstUnder 28 [l0, some (.int y), some (.int (x + nI 1))] st σ) ∧
  (∀ (l0 l1 l2 : Option Value) (st : List Value) (σ : dS), den mX7_firstUnder 28 [l0, l1, l2] st σ = den mX7_firstUnder 2 [l0, l1, l2] st σ) ∧
  (∀ (l0 l1 l2 : Option Value) (st : List Value) (σ : dS), den mX7_firstUnder 31 [l0, l1, l2] st σ = den mX7_firstUnder 33 [l0, l1, l2] (.int ((-4)) :: st) σ) ∧
  (∀ (l0 l1 l2 : Option Value) (v : Int32) (σ : dS), den mX7_firstUnder 33 [l0, l1, l2] [.int v] σ = some (some (.int v), σ)) :=
  ⟨fun l0 l1 l2 st σ => dn_iconst eX7_firstUnder dX7_firstUnder_0 kc_iconst_0,
  fun l0 l2 x y st σ => dn_istore_n eX7_firstUnder dX7_firstUnder_1 rfl,
  fun l1 l2 x st σ => dn_aload_n eX7_firstUnder dX7_firstUnder_3 rfl,
  fun l0 l1 l2 q st σ => dn_getfield (f := (6, 0, 771)) eX7_firstUnder dX7_firstUnder_4 (by decide +kernel),
  fun l0 l1 l2 st σ => dn_bipush eX7_firstUnder dX7_firstUnder_7 kc_bipush_120,
  fun l0 l1 l2 q i st σ => dn_iaload eX7_firstUnder dX7_firstUnder_9,
  fun l0 l1 l2 x y st σ => dn_icmp_ge eX7_firstUnder dX7_firstUnder_10 (by decide),
  fun l1 l2 x st σ => dn_aload_n eX7_firstUnder dX7_firstUnder_13 rfl,
  fun l0 l1 x st σ => dn_iload_n eX7_firstUnder dX7_firstUnder_14 rfl,
  fun l0 l1 l2 st σ => dn_iconst eX7_firstUnder dX7_firstUnder_15 kc_iconst_4,
  fun l0 l1 l2 a0 a1 q σ => rX7_firstUnder_16 l0 l1 l2 a0 a1 q σ,
  fun l0 l2 x st σ => dn_iload_n eX7_firstUnder dX7_firstUnder_19 rfl,
  fun l0 l1 l2 x y st σ => dn_icmp_ne eX7_firstUnder dX7_firstUnder_20 (by decide),
  fun l0 l1 x st σ => dn_iload_n eX7_firstUnder dX7_firstUnder_23 rfl,
  fun l0 l1 l2 v σ => dn_ireturn eX7_firstUnder dX7_firstUnder_24 rfl,
  fun l0 x y st σ => dn_iinc (v := nI 1) eX7_firstUnder dX7_firstUnder_25 rfl kc_iconst_1 rfl,
  fun l0 l1 l2 st σ => dn_goto eX7_firstUnder dX7_firstUnder_28 (by decide),
  fun l0 l1 l2 st σ => dn_bipush eX7_firstUnder dX7_firstUnder_31 kc_bipush_m4,
  fun l0 l1 l2 v σ => dn_ireturn eX7_firstUnder dX7_firstUnder_33 rfl⟩
theorem CX7_isAlike (a0 : Nat) (a1 : Int32) (a2 : Int32) (σ : dS) : dcall mX7_isAlike [.ref a0, .int a1, .int a2] σ = den mX7_isAlike 0 [some (.ref a0), some (.int a1), some (.int a2), none, none] [] σ := dcall_den (by decide) rfl
theorem rX7_isAlike_3 (l0 l1 l2 l3 l4 : Option Value) (a0 : Int32) (a1 : Int32) (q : Nat) (σ : dS) : den mX7_isAlike 3 [l0, l1, l2, l3, l4] [.int a1, .int a0, .ref q] σ = if disO σ q 6 = true then ((dcall mX7_of [.ref q, .int a0, .int a1] σ).bind fun r => den mX7_isAlike 6 [l0, l1, l2, l3, l4] (r.1.toList ++ []) r.2) else none := by
  by_cases h : disO σ q 6 = true
  · rw [if_pos h]; exact dn_callV (e := (0, 120, 947)) (as := [.int a0, .int a1]) (rest := []) eX7_isAlike dX7_isAlike_3 (by decide +kernel) rfl (by decide +kernel) rfl (dcat_le rfl) (dlen_le rfl) rfl h
  · rw [if_neg h]; exact den_noV (e := (0, 120, 947)) (as := [.int a0, .int a1]) (rest := []) eX7_isAlike dX7_isAlike_3 (by decide +kernel) rfl rfl rfl h
theorem hX7_isAlike_19 (l0 l1 l2 l3 : Option Value) (x : Int32) (st : List Value) (σ : dS) : den mX7_isAlike 19 [l0, l1, l2, l3, some (.int x)] st σ = den mX7_isAlike 21 [l0, l1, l2, l3, some (.int x)] (.int x :: st) σ := dn_iload eX7_isAlike dX7_isAlike_19 rfl
theorem rX7_isAlike_33 (l0 l1 l2 l3 l4 : Option Value) (a0 : Int32) (a1 : Int32) (q : Nat) (σ : dS) : den mX7_isAlike 33 [l0, l1, l2, l3, l4] [.int a1, .int a0, .ref q] σ = if disO σ q 6 = true then ((dcall mX7_of [.ref q, .int a0, .int a1] σ).bind fun r => den mX7_isAlike 36 [l0, l1, l2, l3, l4] (r.1.toList ++ []) r.2) else none := by
  by_cases h : disO σ q 6 = true
  · rw [if_pos h]; exact dn_callV (e := (0, 120, 947)) (as := [.int a0, .int a1]) (rest := []) eX7_isAlike dX7_isAlike_33 (by decide +kernel) rfl (by decide +kernel) rfl (dcat_le rfl) (dlen_le rfl) rfl h
  · rw [if_neg h]; exact den_noV (e := (0, 120, 947)) (as := [.int a0, .int a1]) (rest := []) eX7_isAlike dX7_isAlike_33 (by decide +kernel) rfl rfl rfl h
theorem rX7_isAlike_40 (l0 l1 l2 l3 l4 : Option Value) (a0 : Int32) (a1 : Int32) (b0 : Int32) (q : Nat) (σ : dS) : den mX7_isAlike 40 [l0, l1, l2, l3, l4] [.int a1, .int a0, .ref q, .int b0] σ = if disO σ q 6 = true then ((dcall mX7_of [.ref q, .int a0, .int a1] σ).bind fun r => den mX7_isAlike 43 [l0, l1, l2, l3, l4] (r.1.toList ++ [.int b0]) r.2) else none := by
  by_cases h : disO σ q 6 = true
  · rw [if_pos h]; exact dn_callV (e := (0, 120, 947)) (as := [.int a0, .int a1]) (rest := [.int b0]) eX7_isAlike dX7_isAlike_40 (by decide +kernel) rfl (by decide +kernel) rfl (dcat_le rfl) (dlen_le rfl) rfl h
  · rw [if_neg h]; exact den_noV (e := (0, 120, 947)) (as := [.int a0, .int a1]) (rest := [.int b0]) eX7_isAlike dX7_isAlike_40 (by decide +kernel) rfl rfl rfl h
set_option maxRecDepth 20000 in
theorem SX7_isAlike : (∀ (l1 l2 l3 l4 : Option Value) (x : Nat) (st : List Value) (σ : dS), den mX7_isAlike 0 [some (.ref x), l1, l2, l3, l4] st σ = den mX7_isAlike 1 [some (.ref x), l1, l2, l3, l4] (.ref x :: st) σ) ∧
  (∀ (l0 l2 l3 l4 : Option Value) (x : Int32) (st : List Value) (σ : dS), den mX7_isAlike 1 [l0, some (.int x), l2, l3, l4] st σ = den mX7_isAlike 2 [l0, some (.int x), l2, l3, l4] (.int x :: st) σ) ∧
  (∀ (l0 l1 l2 l3 l4 : Option Value) (st : List Value) (σ : dS), den mX7_isAlike 2 [l0, l1, l2, l3, l4] st σ = den mX7_isAlike 3 [l0, l1, l2, l3, l4] (.int (nI 0) :: st) σ) ∧
  (∀ (l0 l1 l2 l3 l4 : Option Value) (a0 : Int32) (a1 : Int32) (q : Nat) (σ : dS), den mX7_isAlike 3 [l0, l1, l2, l3, l4] [.int a1, .int a0, .ref q] σ = if disO σ q 6 = true then ((dcall mX7_of [.ref q, .int a0, .int a1] σ).bind fun r => den mX7_isAlike 6 [l0, l1, l2, l3, l4] (r.1.toList ++ []) r.2) else none) ∧
  (∀ (l0 l1 l2 l3 l4 : Option Value) (st : List Value) (σ : dS), den mX7_isAlike 6 [l0, l1, l2, l3, l4] st σ = den mX7_isAlike 7 [l0, l1, l2, l3, l4] (.int (nI 5) :: st) σ) ∧
  (∀ (l0 l1 l2 l3 l4 : Option Value) (x y : Int32) (st : List Value) (σ : dS), den mX7_isAlike 7 [l0, l1, l2, l3, l4] (.int y :: .int x :: st) σ = if x = y then den mX7_isAlike 14 [l0, l1, l2, l3, l4] st σ else den mX7_isAlike 10 [l0, l1, l2, l3, l4] st σ) ∧
  (∀ (l0 l1 l2 l3 l4 : Option Value) (st : List Value) (σ : dS), den mX7_isAlike 10 [l0, l1, l2, l3, l4] st σ = den mX7_isAlike 11 [l0, l1, l2, l3, l4] (.int (nI 1) :: st) σ) ∧
  (∀ (l0 l1 l2 l3 l4 : Option Value) (st : List Value) (σ : dS), den mX7_isAlike 11 [l0, l1, l2, l3, l4] st σ = den mX7_isAlike 15 [l0, l1, l2, l3, l4] st σ) ∧
  (∀ (l0 l1 l2 l3 l4 : Option Value) (st : List Value) (σ : dS), den mX7_isAlike 14 [l0, l1, l2, l3, l4] st σ = den mX7_isAlike 15 [l0, l1, l2, l3, l4] (.int (nI 0) :: st) σ) ∧
  (∀ (l0 l1 l3 l4 : Option Value) (x : Int32) (y : Int32) (st : List Value) (σ : dS), den mX7_isAlike 15 [l0, l1, some (.int y), l3, l4] (.int x :: st) σ = den mX7_isAlike 16 [l0, l1, some (.int y), some (.int x), l4] st σ) ∧
  (∀ (l0 l1 l2 l3 l4 : Option Value) (st : List Value) (σ : dS), den mX7_isAlike 16 [l0, l1, l2, l3, l4] st σ = den mX7_isAlike 17 [l0, l1, l2, l3, l4] (.int (nI 0) :: st) σ) ∧
  (∀ (l0 l1 l2 l4 : Option Value) (x : Int32) (y : Int32) (st : List Value) (σ : dS), den mX7_isAlike 17 [l0, l1, l2, some (.int y), l4] (.int x :: st) σ = den mX7_isAlike 19 [l0, l1, l2, some (.int y), some (.int x)] st σ) ∧
  (∀ (l0 l1 l2 l3 l4 : Option Value) (st : List Value) (σ : dS), den mX7_isAlike 21 [l0, l1, l2, l3, l4] st σ = den mX7_isAlike 22 [l0, l1, l2, l3, l4] (.int (nI 3) :: st) σ) ∧
  (∀ (l0 l1 l2 l3 l4 : Option Value) (x y : Int32) (st : List Value) (σ : dS), den mX7_isAlike 22 [l0, l1, l2, l3, l4] (.int y :: .int x :: st) σ = if y < x then den mX7_isAlike 58 [l0, l1, l2, l3, l4] st σ else den mX7_isAlike 25 [l0, l1, l2, l3, l4] st σ) ∧
  (∀ (l0 l1 l2 l4 : Option Value) (x : Int32) (st : List Value) (σ : dS), den mX7_isAlike 25 [l0, l1, l2, some (.int x), l4] st σ = den mX7_isAlike 26 [l0, l1, l2, some (.int x), l4] (.int x :: st) σ) ∧
  (∀ (l0 l1 l2 l3 l4 : Option Value) (x : Int32) (st : List Value) (σ : dS), den mX7_isAlike 26 [l0, l1, l2, l3, l4] (.int x :: st) σ = if x = 0 then den mX7_isAlike 50 [l0, l1, l2, l3, l4] st σ else den mX7_isAlike 29 [l0, l1, l2, l3, l4] st σ) ∧
  (∀ (l1 l2 l3 l4 : Option Value) (x : Nat) (st : List Value) (σ : dS), den mX7_isAlike 29 [some (.ref x), l1, l2, l3, l4] st σ = den mX7_isAlike 30 [some (.ref x), l1, l2, l3, l4] (.ref x :: st) σ) ∧
  (∀ (l0 l2 l3 l4 : Option Value) (x : Int32) (st : List Value) (σ : dS), den mX7_isAlike 30 [l0, some (.int x), l2, l3, l4] st σ = den mX7_isAlike 31 [l0, some (.int x), l2, l3, l4] (.int x :: st) σ) ∧
  (∀ (l0 l1 l2 l3 : Option Value) (x : Int32) (st : List Value) (σ : dS), den mX7_isAlike 31 [l0, l1, l2, l3, some (.int x)] st σ = den mX7_isAlike 33 [l0, l1, l2, l3, some (.int x)] (.int x :: st) σ) ∧
  (∀ (l0 l1 l2 l3 l4 : Option Value) (a0 : Int32) (a1 : Int32) (q : Nat) (σ : dS), den mX7_isAlike 33 [l0, l1, l2, l3, l4] [.int a1, .int a0, .ref q] σ = if disO σ q 6 = true then ((dcall mX7_of [.ref q, .int a0, .int a1] σ).bind fun r => den mX7_isAlike 36 [l0, l1, l2, l3, l4] (r.1.toList ++ []) r.2) else none) ∧
  (∀ (l1 l2 l3 l4 : Option Value) (x : Nat) (st : List Value) (σ : dS), den mX7_isAlike 36 [some (.ref x), l1, l2, l3, l4] st σ = den mX7_isAlike 37 [some (.ref x), l1, l2, l3, l4] (.ref x :: st) σ) ∧
  (∀ (l0 l1 l3 l4 : Option Value) (x : Int32) (st : List Value) (σ : dS), den mX7_isAlike 37 [l0, l1, some (.int x), l3, l4] st σ = den mX7_isAlike 38 [l0, l1, some (.int x), l3, l4] (.int x :: st) σ) ∧
  (∀ (l0 l1 l2 l3 : Option Value) (x : Int32) (st : List Value) (σ : dS), den mX7_isAlike 38 [l0, l1, l2, l3, some (.int x)] st σ = den mX7_isAlike 40 [l0, l1, l2, l3, some (.int x)] (.int x :: st) σ) ∧
  (∀ (l0 l1 l2 l3 l4 : Option Value) (a0 : Int32) (a1 : Int32) (b0 : Int32) (q : Nat) (σ : dS), den mX7_isAlike 40 [l0, l1, l2, l3, l4] [.int a1, .int a0, .ref q, .int b0] σ = if disO σ q 6 = true then ((dcall mX7_of [.ref q, .int a0, .int a1] σ).bind fun r => den mX7_isAlike 43 [l0, l1, l2, l3, l4] (r.1.toList ++ [.int b0]) r.2) else none) ∧
  (∀ (l0 l1 l2 l3 l4 : Option Value) (x y : Int32) (st : List Value) (σ : dS), den mX7_isAlike 43 [l0, l1, l2, l3, l4] (.int y :: .int x :: st) σ = if x = y then den mX7_isAlike 46 [l0, l1, l2, l3, l4] st σ else den mX7_isAlike 50 [l0, l1, l2, l3, l4] st σ) ∧
  (∀ (l0 l1 l2 l3 l4 : Option Value) (st : List Value) (σ : dS), den mX7_isAlike 46 [l0, l1, l2, l3, l4] st σ = den mX7_isAlike 47 [l0, l1, l2, l3, l4] (.int (nI 1) :: st) σ) ∧
  (∀ (l0 l1 l2 l3 l4 : Option Value) (st : List Value) (σ : dS), den mX7_isAlike 47 [l0, l1, l2, l3, l4] st σ = den mX7_isAlike 51 [l0, l1, l2, l3, l4] st σ) ∧
  (∀ (l0 l1 l2 l3 l4 : Option Value) (st : List Value) (σ : dS), den mX7_isAlike 50 [l0, l1, l2, l3, l4] st σ = den mX7_isAlike 51 [l0, l1, l2, l3, l4] (.int (nI 0) :: st) σ) ∧
  (∀ (l0 l1 l3 l4 : Option Value) (x : Int32) (y : Int32) (st : List Value) (σ : dS), den mX7_isAlike 51 [l0, l1, some (.int y), l3, l4] (.int x :: st) σ = den mX7_isAlike 52 [l0, l1, some (.int y), some (.int x), l4] st σ) ∧
  (∀ (l0 l1 l2 : Option Value) (x : Int32) (y : Int32) (st : List Value) (σ : dS), den mX7_isAlike 52 [l0, l1, l2, some (.int y), some (.int x)] st σ = den mX7_isAlike 55 [l0, l1, l2, some (.int y), some (.int (x + nI 1))] st σ) ∧
  (∀ (l0 l1 l2 l3 l4 : Option Value) (st : List Value) (σ : dS), den mX7_isAlike 55 [l0, l1, l2, l3, l4] st σ = den mX7_isAlike 19 [l0, l1, l2, l3, l4] st σ) ∧
  (∀ (l0 l1 l2 l4 : Option Value) (x : Int32) (st : List Value) (σ : dS), den mX7_isAlike 58 [l0, l1, l2, some (.int x), l4] st σ = den mX7_isAlike 59 [l0, l1, l2, some (.int x), l4] (.int x :: st) σ) ∧
  (∀ (l0 l1 l2 l3 l4 : Option Value) (v : Int32) (σ : dS), den mX7_isAlike 59 [l0, l1, l2, l3, l4] [.int v] σ = if v = 0 ∨ v = 1 then some (some (.int v), σ) else none) :=
  ⟨fun l1 l2 l3 l4 x st σ => dn_aload_n eX7_isAlike dX7_isAlike_0 rfl,
  fun l0 l2 l3 l4 x st σ => dn_iload_n eX7_isAlike dX7_isAlike_1 rfl,
  fun l0 l1 l2 l3 l4 st σ => dn_iconst eX7_isAlike dX7_isAlike_2 kc_iconst_0,
  fun l0 l1 l2 l3 l4 a0 a1 q σ => rX7_isAlike_3 l0 l1 l2 l3 l4 a0 a1 q σ,
  fun l0 l1 l2 l3 l4 st σ => dn_iconst eX7_isAlike dX7_isAlike_6 kc_iconst_5,
  fun l0 l1 l2 l3 l4 x y st σ => dn_icmp_eq eX7_isAlike dX7_isAlike_7 (by decide),
  fun l0 l1 l2 l3 l4 st σ => dn_iconst eX7_isAlike dX7_isAlike_10 kc_iconst_1,
  fun l0 l1 l2 l3 l4 st σ => dn_goto eX7_isAlike dX7_isAlike_11 (by decide),
  fun l0 l1 l2 l3 l4 st σ => dn_iconst eX7_isAlike dX7_isAlike_14 kc_iconst_0,
  fun l0 l1 l3 l4 x y st σ => dn_istore_n eX7_isAlike dX7_isAlike_15 rfl,
  fun l0 l1 l2 l3 l4 st σ => dn_iconst eX7_isAlike dX7_isAlike_16 kc_iconst_0,
  fun l0 l1 l2 l4 x y st σ => dn_istore eX7_isAlike dX7_isAlike_17 rfl,
  fun l0 l1 l2 l3 l4 st σ => dn_iconst eX7_isAlike dX7_isAlike_21 kc_iconst_3,
  fun l0 l1 l2 l3 l4 x y st σ => dn_icmp_gt eX7_isAlike dX7_isAlike_22 (by decide),
  fun l0 l1 l2 l4 x st σ => dn_iload_n eX7_isAlike dX7_isAlike_25 rfl,
  fun l0 l1 l2 l3 l4 x st σ => dn_if_eq eX7_isAlike dX7_isAlike_26 (by decide),
  fun l1 l2 l3 l4 x st σ => dn_aload_n eX7_isAlike dX7_isAlike_29 rfl,
  fun l0 l2 l3 l4 x st σ => dn_iload_n eX7_isAlike dX7_isAlike_30 rfl,
  fun l0 l1 l2 l3 x st σ => dn_iload eX7_isAlike dX7_isAlike_31 rfl,
  fun l0 l1 l2 l3 l4 a0 a1 q σ => rX7_isAlike_33 l0 l1 l2 l3 l4 a0 a1 q σ,
  fun l1 l2 l3 l4 x st σ => dn_aload_n eX7_isAlike dX7_isAlike_36 rfl,
  fun l0 l1 l3 l4 x st σ => dn_iload_n eX7_isAlike dX7_isAlike_37 rfl,
  fun l0 l1 l2 l3 x st σ => dn_iload eX7_isAlike dX7_isAlike_38 rfl,
  fun l0 l1 l2 l3 l4 a0 a1 b0 q σ => rX7_isAlike_40 l0 l1 l2 l3 l4 a0 a1 b0 q σ,
  fun l0 l1 l2 l3 l4 x y st σ => dn_icmp_ne eX7_isAlike dX7_isAlike_43 (by decide),
  fun l0 l1 l2 l3 l4 st σ => dn_iconst eX7_isAlike dX7_isAlike_46 kc_iconst_1,
  fun l0 l1 l2 l3 l4 st σ => dn_goto eX7_isAlike dX7_isAlike_47 (by decide),
  fun l0 l1 l2 l3 l4 st σ => dn_iconst eX7_isAlike dX7_isAlike_50 kc_iconst_0,
  fun l0 l1 l3 l4 x y st σ => dn_istore_n eX7_isAlike dX7_isAlike_51 rfl,
  fun l0 l1 l2 x y st σ => dn_iinc (v := nI 1) eX7_isAlike dX7_isAlike_52 rfl kc_iconst_1 rfl,
  fun l0 l1 l2 l3 l4 st σ => dn_goto eX7_isAlike dX7_isAlike_55 (by decide),
  fun l0 l1 l2 l4 x st σ => dn_iload_n eX7_isAlike dX7_isAlike_58 rfl,
  fun l0 l1 l2 l3 l4 v σ => dn_zreturn eX7_isAlike dX7_isAlike_59 rfl⟩
theorem CX7_isMerged (a0 : Nat) (a1 : Int32) (σ : dS) : dcall mX7_isMerged [.ref a0, .int a1] σ = den mX7_isMerged 0 [some (.ref a0), some (.int a1), none, none, none, none, none, none, none, none, none] [] σ := dcall_den (by decide) rfl
theorem rX7_isMerged_2 (l0 l1 l2 l3 l4 l5 l6 l7 l8 l9 l10 : Option Value) (a0 : Int32) (q : Nat) (σ : dS) : den mX7_isMerged 2 [l0, l1, l2, l3, l4, l5, l6, l7, l8, l9, l10] [.int a0, .ref q] σ = if disO σ q 6 = true then ((dcall mX7_codeOf [.ref q, .int a0] σ).bind fun r => den mX7_isMerged 5 [l0, l1, l2, l3, l4, l5, l6, l7, l8, l9, l10] (r.1.toList ++ []) r.2) else none := by
  by_cases h : disO σ q 6 = true
  · rw [if_pos h]; exact dn_callV (e := (0, 123, 966)) (as := [.int a0]) (rest := []) eX7_isMerged dX7_isMerged_2 (by decide +kernel) rfl (by decide +kernel) rfl (dcat_le rfl) (dlen_le rfl) rfl h
  · rw [if_neg h]; exact den_noV (e := (0, 123, 966)) (as := [.int a0]) (rest := []) eX7_isMerged dX7_isMerged_2 (by decide +kernel) rfl rfl rfl h
theorem rX7_isMerged_12 (l0 l1 l2 l3 l4 l5 l6 l7 l8 l9 l10 : Option Value) (a0 : Int32) (q : Nat) (σ : dS) : den mX7_isMerged 12 [l0, l1, l2, l3, l4, l5, l6, l7, l8, l9, l10] [.int a0, .ref q] σ = if disO σ q 6 = true then ((dcall mX7_firstUnder [.ref q, .int a0] σ).bind fun r => den mX7_isMerged 15 [l0, l1, l2, l3, l4, l5, l6, l7, l8, l9, l10] (r.1.toList ++ []) r.2) else none := by
  by_cases h : disO σ q 6 = true
  · rw [if_pos h]; exact dn_callV (e := (0, 170, 1160)) (as := [.int a0]) (rest := []) eX7_isMerged dX7_isMerged_12 (by decide +kernel) rfl (by decide +kernel) rfl (dcat_le rfl) (dlen_le rfl) rfl h
  · rw [if_neg h]; exact den_noV (e := (0, 170, 1160)) (as := [.int a0]) (rest := []) eX7_isMerged dX7_isMerged_12 (by decide +kernel) rfl rfl rfl h
theorem rX7_isMerged_22 (l0 l1 l2 l3 l4 l5 l6 l7 l8 l9 l10 : Option Value) (a0 : Int32) (q : Nat) (σ : dS) : den mX7_isMerged 22 [l0, l1, l2, l3, l4, l5, l6, l7, l8, l9, l10] [.int a0, .ref q] σ = if disO σ q 6 = true then ((dcall mX7_firstUnder [.ref q, .int a0] σ).bind fun r => den mX7_isMerged 25 [l0, l1, l2, l3, l4, l5, l6, l7, l8, l9, l10] (r.1.toList ++ []) r.2) else none := by
  by_cases h : disO σ q 6 = true
  · rw [if_pos h]; exact dn_callV (e := (0, 170, 1160)) (as := [.int a0]) (rest := []) eX7_isMerged dX7_isMerged_22 (by decide +kernel) rfl (by decide +kernel) rfl (dcat_le rfl) (dlen_le rfl) rfl h
  · rw [if_neg h]; exact den_noV (e := (0, 170, 1160)) (as := [.int a0]) (rest := []) eX7_isMerged dX7_isMerged_22 (by decide +kernel) rfl rfl rfl h
theorem rX7_isMerged_44 (l0 l1 l2 l3 l4 l5 l6 l7 l8 l9 l10 : Option Value) (a0 : Int32) (a1 : Int32) (q : Nat) (σ : dS) : den mX7_isMerged 44 [l0, l1, l2, l3, l4, l5, l6, l7, l8, l9, l10] [.int a1, .int a0, .ref q] σ = if disO σ q 6 = true then ((dcall mX7_isAlike [.ref q, .int a0, .int a1] σ).bind fun r => den mX7_isMerged 47 [l0, l1, l2, l3, l4, l5, l6, l7, l8, l9, l10] (r.1.toList ++ []) r.2) else none := by
  by_cases h : disO σ q 6 = true
  · rw [if_pos h]; exact dn_callV (e := (0, 171, 1164)) (as := [.int a0, .int a1]) (rest := []) eX7_isMerged dX7_isMerged_44 (by decide +kernel) rfl (by decide +kernel) rfl (dcat_le rfl) (dlen_le rfl) rfl h
  · rw [if_neg h]; exact den_noV (e := (0, 171, 1164)) (as := [.int a0, .int a1]) (rest := []) eX7_isMerged dX7_isMerged_44 (by decide +kernel) rfl rfl rfl h
theorem rX7_isMerged_53 (l0 l1 l2 l3 l4 l5 l6 l7 l8 l9 l10 : Option Value) (a0 : Int32) (a1 : Int32) (q : Nat) (σ : dS) : den mX7_isMerged 53 [l0, l1, l2, l3, l4, l5, l6, l7, l8, l9, l10] [.int a1, .int a0, .ref q] σ = if disO σ q 6 = true then ((dcall mX7_of [.ref q, .int a0, .int a1] σ).bind fun r => den mX7_isMerged 56 [l0, l1, l2, l3, l4, l5, l6, l7, l8, l9, l10] (r.1.toList ++ []) r.2) else none := by
  by_cases h : disO σ q 6 = true
  · rw [if_pos h]; exact dn_callV (e := (0, 120, 947)) (as := [.int a0, .int a1]) (rest := []) eX7_isMerged dX7_isMerged_53 (by decide +kernel) rfl (by decide +kernel) rfl (dcat_le rfl) (dlen_le rfl) rfl h
  · rw [if_neg h]; exact den_noV (e := (0, 120, 947)) (as := [.int a0, .int a1]) (rest := []) eX7_isMerged dX7_isMerged_53 (by decide +kernel) rfl rfl rfl h
theorem rX7_isMerged_59 (l0 l1 l2 l3 l4 l5 l6 l7 l8 l9 l10 : Option Value) (a0 : Int32) (a1 : Int32) (b0 : Int32) (q : Nat) (σ : dS) : den mX7_isMerged 59 [l0, l1, l2, l3, l4, l5, l6, l7, l8, l9, l10] [.int a1, .int a0, .ref q, .int b0] σ = if disO σ q 6 = true then ((dcall mX7_of [.ref q, .int a0, .int a1] σ).bind fun r => den mX7_isMerged 62 [l0, l1, l2, l3, l4, l5, l6, l7, l8, l9, l10] (r.1.toList ++ [.int b0]) r.2) else none := by
  by_cases h : disO σ q 6 = true
  · rw [if_pos h]; exact dn_callV (e := (0, 120, 947)) (as := [.int a0, .int a1]) (rest := [.int b0]) eX7_isMerged dX7_isMerged_59 (by decide +kernel) rfl (by decide +kernel) rfl (dcat_le rfl) (dlen_le rfl) rfl h
  · rw [if_neg h]; exact den_noV (e := (0, 120, 947)) (as := [.int a0, .int a1]) (rest := [.int b0]) eX7_isMerged dX7_isMerged_59 (by decide +kernel) rfl rfl rfl h
theorem rX7_isMerged_70 (l0 l1 l2 l3 l4 l5 l6 l7 l8 l9 l10 : Option Value) (a0 : Int32) (a1 : Int32) (q : Nat) (σ : dS) : den mX7_isMerged 70 [l0, l1, l2, l3, l4, l5, l6, l7, l8, l9, l10] [.int a1, .int a0, .ref q] σ = if disO σ q 6 = true then ((dcall mX7_of [.ref q, .int a0, .int a1] σ).bind fun r => den mX7_isMerged 73 [l0, l1, l2, l3, l4, l5, l6, l7, l8, l9, l10] (r.1.toList ++ []) r.2) else none := by
  by_cases h : disO σ q 6 = true
  · rw [if_pos h]; exact dn_callV (e := (0, 120, 947)) (as := [.int a0, .int a1]) (rest := []) eX7_isMerged dX7_isMerged_70 (by decide +kernel) rfl (by decide +kernel) rfl (dcat_le rfl) (dlen_le rfl) rfl h
  · rw [if_neg h]; exact den_noV (e := (0, 120, 947)) (as := [.int a0, .int a1]) (rest := []) eX7_isMerged dX7_isMerged_70 (by decide +kernel) rfl rfl rfl h
theorem rX7_isMerged_78 (l0 l1 l2 l3 l4 l5 l6 l7 l8 l9 l10 : Option Value) (a0 : Int32) (a1 : Int32) (q : Nat) (σ : dS) : den mX7_isMerged 78 [l0, l1, l2, l3, l4, l5, l6, l7, l8, l9, l10] [.int a1, .int a0, .ref q] σ = if disO σ q 6 = true then ((dcall mX7_of [.ref q, .int a0, .int a1] σ).bind fun r => den mX7_isMerged 81 [l0, l1, l2, l3, l4, l5, l6, l7, l8, l9, l10] (r.1.toList ++ []) r.2) else none := by
  by_cases h : disO σ q 6 = true
  · rw [if_pos h]; exact dn_callV (e := (0, 120, 947)) (as := [.int a0, .int a1]) (rest := []) eX7_isMerged dX7_isMerged_78 (by decide +kernel) rfl (by decide +kernel) rfl (dcat_le rfl) (dlen_le rfl) rfl h
  · rw [if_neg h]; exact den_noV (e := (0, 120, 947)) (as := [.int a0, .int a1]) (rest := []) eX7_isMerged dX7_isMerged_78 (by decide +kernel) rfl rfl rfl h
theorem rX7_isMerged_86 (l0 l1 l2 l3 l4 l5 l6 l7 l8 l9 l10 : Option Value) (a0 : Int32) (a1 : Int32) (q : Nat) (σ : dS) : den mX7_isMerged 86 [l0, l1, l2, l3, l4, l5, l6, l7, l8, l9, l10] [.int a1, .int a0, .ref q] σ = if disO σ q 6 = true then ((dcall mX7_of [.ref q, .int a0, .int a1] σ).bind fun r => den mX7_isMerged 89 [l0, l1, l2, l3, l4, l5, l6, l7, l8, l9, l10] (r.1.toList ++ []) r.2) else none := by
  by_cases h : disO σ q 6 = true
  · rw [if_pos h]; exact dn_callV (e := (0, 120, 947)) (as := [.int a0, .int a1]) (rest := []) eX7_isMerged dX7_isMerged_86 (by decide +kernel) rfl (by decide +kernel) rfl (dcat_le rfl) (dlen_le rfl) rfl h
  · rw [if_neg h]; exact den_noV (e := (0, 120, 947)) (as := [.int a0, .int a1]) (rest := []) eX7_isMerged dX7_isMerged_86 (by decide +kernel) rfl rfl rfl h
theorem rX7_isMerged_94 (l0 l1 l2 l3 l4 l5 l6 l7 l8 l9 l10 : Option Value) (a0 : Int32) (a1 : Int32) (q : Nat) (σ : dS) : den mX7_isMerged 94 [l0, l1, l2, l3, l4, l5, l6, l7, l8, l9, l10] [.int a1, .int a0, .ref q] σ = if disO σ q 6 = true then ((dcall mX7_of [.ref q, .int a0, .int a1] σ).bind fun r => den mX7_isMerged 97 [l0, l1, l2, l3, l4, l5, l6, l7, l8, l9, l10] (r.1.toList ++ []) r.2) else none := by
  by_cases h : disO σ q 6 = true
  · rw [if_pos h]; exact dn_callV (e := (0, 120, 947)) (as := [.int a0, .int a1]) (rest := []) eX7_isMerged dX7_isMerged_94 (by decide +kernel) rfl (by decide +kernel) rfl (dcat_le rfl) (dlen_le rfl) rfl h
  · rw [if_neg h]; exact den_noV (e := (0, 120, 947)) (as := [.int a0, .int a1]) (rest := []) eX7_isMerged dX7_isMerged_94 (by decide +kernel) rfl rfl rfl h
theorem rX7_isMerged_102 (l0 l1 l2 l3 l4 l5 l6 l7 l8 l9 l10 : Option Value) (a0 : Int32) (a1 : Int32) (q : Nat) (σ : dS) : den mX7_isMerged 102 [l0, l1, l2, l3, l4, l5, l6, l7, l8, l9, l10] [.int a1, .int a0, .ref q] σ = if disO σ q 6 = true then ((dcall mX7_of [.ref q, .int a0, .int a1] σ).bind fun r => den mX7_isMerged 105 [l0, l1, l2, l3, l4, l5, l6, l7, l8, l9, l10] (r.1.toList ++ []) r.2) else none := by
  by_cases h : disO σ q 6 = true
  · rw [if_pos h]; exact dn_callV (e := (0, 120, 947)) (as := [.int a0, .int a1]) (rest := []) eX7_isMerged dX7_isMerged_102 (by decide +kernel) rfl (by decide +kernel) rfl (dcat_le rfl) (dlen_le rfl) rfl h
  · rw [if_neg h]; exact den_noV (e := (0, 120, 947)) (as := [.int a0, .int a1]) (rest := []) eX7_isMerged dX7_isMerged_102 (by decide +kernel) rfl rfl rfl h
theorem rX7_isMerged_110 (l0 l1 l2 l3 l4 l5 l6 l7 l8 l9 l10 : Option Value) (a0 : Int32) (q : Nat) (σ : dS) : den mX7_isMerged 110 [l0, l1, l2, l3, l4, l5, l6, l7, l8, l9, l10] [.int a0, .ref q] σ = if disO σ q 6 = true then ((dcall mX7_codeGoes [.ref q, .int a0] σ).bind fun r => den mX7_isMerged 113 [l0, l1, l2, l3, l4, l5, l6, l7, l8, l9, l10] (r.1.toList ++ []) r.2) else none := by
  by_cases h : disO σ q 6 = true
  · rw [if_pos h]; exact dn_callV (e := (0, 167, 1144)) (as := [.int a0]) (rest := []) eX7_isMerged dX7_isMerged_110 (by decide +kernel) rfl (by decide +kernel) rfl (dcat_le rfl) (dlen_le rfl) rfl h
  · rw [if_neg h]; exact den_noV (e := (0, 167, 1144)) (as := [.int a0]) (rest := []) eX7_isMerged dX7_isMerged_110 (by decide +kernel) rfl rfl rfl h
theorem hX7_isMerged_120 (l0 l1 l2 l3 l4 l5 l6 l7 l8 l9 : Option Value) (x : Int32) (st : List Value) (σ : dS) : den mX7_isMerged 120 [l0, l1, l2, l3, l4, l5, l6, l7, l8, l9, some (.int x)] st σ = den mX7_isMerged 122 [l0, l1, l2, l3, l4, l5, l6, l7, l8, l9, some (.int x)] (.int x :: st) σ := dn_iload eX7_isMerged dX7_isMerged_120 rfl
set_option maxRecDepth 20000 in
theorem SX7_isMerged_0 : (∀ (l1 l2 l3 l4 l5 l6 l7 l8 l9 l10 : Option Value) (x : Nat) (st : List Value) (σ : dS), den mX7_isMerged 0 [some (.ref x), l1, l2, l3, l4, l5, l6, l7, l8, l9, l10] st σ = den mX7_isMerged 1 [some (.ref x), l1, l2, l3, l4, l5, l6, l7, l8, l9, l10] (.ref x :: st) σ) ∧
  (∀ (l0 l2 l3 l4 l5 l6 l7 l8 l9 l10 : Option Value) (x : Int32) (st : List Value) (σ : dS), den mX7_isMerged 1 [l0, some (.int x), l2, l3, l4, l5, l6, l7, l8, l9, l10] st σ = den mX7_isMerged 2 [l0, some (.int x), l2, l3, l4, l5, l6, l7, l8, l9, l10] (.int x :: st) σ) ∧
  (∀ (l0 l1 l2 l3 l4 l5 l6 l7 l8 l9 l10 : Option Value) (a0 : Int32) (q : Nat) (σ : dS), den mX7_isMerged 2 [l0, l1, l2, l3, l4, l5, l6, l7, l8, l9, l10] [.int a0, .ref q] σ = if disO σ q 6 = true then ((dcall mX7_codeOf [.ref q, .int a0] σ).bind fun r => den mX7_isMerged 5 [l0, l1, l2, l3, l4, l5, l6, l7, l8, l9, l10] (r.1.toList ++ []) r.2) else none) ∧
  (∀ (l0 l2 l3 l4 l5 l6 l7 l8 l9 l10 : Option Value) (x : Int32) (y : Int32) (st : List Value) (σ : dS), den mX7_isMerged 5 [l0, some (.int y), l2, l3, l4, l5, l6, l7, l8, l9, l10] (.int x :: st) σ = den mX7_isMerged 6 [l0, some (.int y), some (.int x), l3, l4, l5, l6, l7, l8, l9, l10] st σ) ∧
  (∀ (l1 l2 l3 l4 l5 l6 l7 l8 l9 l10 : Option Value) (x : Nat) (st : List Value) (σ : dS), den mX7_isMerged 6 [some (.ref x), l1, l2, l3, l4, l5, l6, l7, l8, l9, l10] st σ = den mX7_isMerged 7 [some (.ref x), l1, l2, l3, l4, l5, l6, l7, l8, l9, l10] (.ref x :: st) σ) ∧
  (∀ (l0 l1 l2 l3 l4 l5 l6 l7 l8 l9 l10 : Option Value) (st : List Value) (σ : dS), den mX7_isMerged 7 [l0, l1, l2, l3, l4, l5, l6, l7, l8, l9, l10] st σ = den mX7_isMerged 8 [l0, l1, l2, l3, l4, l5, l6, l7, l8, l9, l10] (.int (nI 2) :: st) σ) ∧
  (∀ (l0 l2 l3 l4 l5 l6 l7 l8 l9 l10 : Option Value) (x : Int32) (st : List Value) (σ : dS), den mX7_isMerged 8 [l0, some (.int x), l2, l3, l4, l5, l6, l7, l8, l9, l10] st σ = den mX7_isMerged 9 [l0, some (.int x), l2, l3, l4, l5, l6, l7, l8, l9, l10] (.int x :: st) σ) ∧
  (∀ (l0 l1 l2 l3 l4 l5 l6 l7 l8 l9 l10 : Option Value) (x y : Int32) (st : List Value) (σ : dS), den mX7_isMerged 9 [l0, l1, l2, l3, l4, l5, l6, l7, l8, l9, l10] (.int y :: .int x :: st) σ = den mX7_isMerged 10 [l0, l1, l2, l3, l4, l5, l6, l7, l8, l9, l10] (.int (x * y) :: st) σ) ∧
  (∀ (l0 l1 l2 l3 l4 l5 l6 l7 l8 l9 l10 : Option Value) (st : List Value) (σ : dS), den mX7_isMerged 10 [l0, l1, l2, l3, l4, l5, l6, l7, l8, l9, l10] st σ = den mX7_isMerged 11 [l0, l1, l2, l3, l4, l5, l6, l7, l8, l9, l10] (.int (nI 1) :: st) σ) ∧
  (∀ (l0 l1 l2 l3 l4 l5 l6 l7 l8 l9 l10 : Option Value) (x y : Int32) (st : List Value) (σ : dS), den mX7_isMerged 11 [l0, l1, l2, l3, l4, l5, l6, l7, l8, l9, l10] (.int y :: .int x :: st) σ = den mX7_isMerged 12 [l0, l1, l2, l3, l4, l5, l6, l7, l8, l9, l10] (.int (x + y) :: st) σ) ∧
  (∀ (l0 l1 l2 l3 l4 l5 l6 l7 l8 l9 l10 : Option Value) (a0 : Int32) (q : Nat) (σ : dS), den mX7_isMerged 12 [l0, l1, l2, l3, l4, l5, l6, l7, l8, l9, l10] [.int a0, .ref q] σ = if disO σ q 6 = true then ((dcall mX7_firstUnder [.ref q, .int a0] σ).bind fun r => den mX7_isMerged 15 [l0, l1, l2, l3, l4, l5, l6, l7, l8, l9, l10] (r.1.toList ++ []) r.2) else none) ∧
  (∀ (l0 l1 l3 l4 l5 l6 l7 l8 l9 l10 : Option Value) (x : Int32) (y : Int32) (st : List Value) (σ : dS), den mX7_isMerged 15 [l0, l1, some (.int y), l3, l4, l5, l6, l7, l8, l9, l10] (.int x :: st) σ = den mX7_isMerged 16 [l0, l1, some (.int y), some (.int x), l4, l5, l6, l7, l8, l9, l10] st σ) ∧
  (∀ (l1 l2 l3 l4 l5 l6 l7 l8 l9 l10 : Option Value) (x : Nat) (st : List Value) (σ : dS), den mX7_isMerged 16 [some (.ref x), l1, l2, l3, l4, l5, l6, l7, l8, l9, l10] st σ = den mX7_isMerged 17 [some (.ref x), l1, l2, l3, l4, l5, l6, l7, l8, l9, l10] (.ref x :: st) σ) ∧
  (∀ (l0 l1 l2 l3 l4 l5 l6 l7 l8 l9 l10 : Option Value) (st : List Value) (σ : dS), den mX7_isMerged 17 [l0, l1, l2, l3, l4, l5, l6, l7, l8, l9, l10] st σ = den mX7_isMerged 18 [l0, l1, l2, l3, l4, l5, l6, l7, l8, l9, l10] (.int (nI 2) :: st) σ) ∧
  (∀ (l0 l2 l3 l4 l5 l6 l7 l8 l9 l10 : Option Value) (x : Int32) (st : List Value) (σ : dS), den mX7_isMerged 18 [l0, some (.int x), l2, l3, l4, l5, l6, l7, l8, l9, l10] st σ = den mX7_isMerged 19 [l0, some (.int x), l2, l3, l4, l5, l6, l7, l8, l9, l10] (.int x :: st) σ) ∧
  (∀ (l0 l1 l2 l3 l4 l5 l6 l7 l8 l9 l10 : Option Value) (x y : Int32) (st : List Value) (σ : dS), den mX7_isMerged 19 [l0, l1, l2, l3, l4, l5, l6, l7, l8, l9, l10] (.int y :: .int x :: st) σ = den mX7_isMerged 20 [l0, l1, l2, l3, l4, l5, l6, l7, l8, l9, l10] (.int (x * y) :: st) σ) ∧
  (∀ (l0 l1 l2 l3 l4 l5 l6 l7 l8 l9 l10 : Option Value) (st : List Value) (σ : dS), den mX7_isMerged 20 [l0, l1, l2, l3, l4, l5, l6, l7, l8, l9, l10] st σ = den mX7_isMerged 21 [l0, l1, l2, l3, l4, l5, l6, l7, l8, l9, l10] (.int (nI 2) :: st) σ) ∧
  (∀ (l0 l1 l2 l3 l4 l5 l6 l7 l8 l9 l10 : Option Value) (x y : Int32) (st : List Value) (σ : dS), den mX7_isMerged 21 [l0, l1, l2, l3, l4, l5, l6, l7, l8, l9, l10] (.int y :: .int x :: st) σ = den mX7_isMerged 22 [l0, l1, l2, l3, l4, l5, l6, l7, l8, l9, l10] (.int (x + y) :: st) σ) ∧
  (∀ (l0 l1 l2 l3 l4 l5 l6 l7 l8 l9 l10 : Option Value) (a0 : Int32) (q : Nat) (σ : dS), den mX7_isMerged 22 [l0, l1, l2, l3, l4, l5, l6, l7, l8, l9, l10] [.int a0, .ref q] σ = if disO σ q 6 = true then ((dcall mX7_firstUnder [.ref q, .int a0] σ).bind fun r => den mX7_isMerged 25 [l0, l1, l2, l3, l4, l5, l6, l7, l8, l9, l10] (r.1.toList ++ []) r.2) else none) ∧
  (∀ (l0 l1 l2 l4 l5 l6 l7 l8 l9 l10 : Option Value) (x : Int32) (y : Int32) (st : List Value) (σ : dS), den mX7_isMerged 25 [l0, l1, l2, some (.int y), l4, l5, l6, l7, l8, l9, l10] (.int x :: st) σ = den mX7_isMerged 27 [l0, l1, l2, some (.int y), some (.int x), l5, l6, l7, l8, l9, l10] st σ) ∧
  (∀ (l0 l1 l2 l4 l5 l6 l7 l8 l9 l10 : Option Value) (x : Int32) (st : List Value) (σ : dS), den mX7_isMerged 27 [l0, l1, l2, some (.int x), l4, l5, l6, l7, l8, l9, l10] st σ = den mX7_isMerged 28 [l0, l1, l2, some (.int x), l4, l5, l6, l7, l8, l9, l10] (.int x :: st) σ) ∧
  (∀ (l0 l1 l2 l3 l4 l5 l6 l7 l8 l9 l10 : Option Value) (st : List Value) (σ : dS), den mX7_isMerged 28 [l0, l1, l2, l3, l4, l5, l6, l7, l8, l9, l10] st σ = den mX7_isMerged 30 [l0, l1, l2, l3, l4, l5, l6, l7, l8, l9, l10] (.int ((-4)) :: st) σ) ∧
  (∀ (l0 l1 l2 l3 l4 l5 l6 l7 l8 l9 l10 : Option Value) (x y : Int32) (st : List Value) (σ : dS), den mX7_isMerged 30 [l0, l1, l2, l3, l4, l5, l6, l7, l8, l9, l10] (.int y :: .int x :: st) σ = if x = y then den mX7_isMerged 65 [l0, l1, l2, l3, l4, l5, l6, l7, l8, l9, l10] st σ else den mX7_isMerged 33 [l0, l1, l2, l3, l4, l5, l6, l7, l8, l9, l10] st σ) ∧
  (∀ (l0 l1 l2 l3 l5 l6 l7 l8 l9 l10 : Option Value) (x : Int32) (st : List Value) (σ : dS), den mX7_isMerged 33 [l0, l1, l2, l3, some (.int x), l5, l6, l7, l8, l9, l10] st σ = den mX7_isMerged 35 [l0, l1, l2, l3, some (.int x), l5, l6, l7, l8, l9, l10] (.int x :: st) σ) ∧
  (∀ (l0 l1 l2 l3 l4 l5 l6 l7 l8 l9 l10 : Option Value) (st : List Value) (σ : dS), den mX7_isMerged 35 [l0, l1, l2, l3, l4, l5, l6, l7, l8, l9, l10] st σ = den mX7_isMerged 37 [l0, l1, l2, l3, l4, l5, l6, l7, l8, l9, l10] (.int ((-4)) :: st) σ) ∧
  (∀ (l0 l1 l2 l3 l4 l5 l6 l7 l8 l9 l10 : Option Value) (x y : Int32) (st : List Value) (σ : dS), den mX7_isMerged 37 [l0, l1, l2, l3, l4, l5, l6, l7, l8, l9, l10] (.int y :: .int x :: st) σ = if x = y then den mX7_isMerged 65 [l0, l1, l2, l3, l4, l5, l6, l7, l8, l9, l10] st σ else den mX7_isMerged 40 [l0, l1, l2, l3, l4, l5, l6, l7, l8, l9, l10] st σ) ∧
  (∀ (l1 l2 l3 l4 l5 l6 l7 l8 l9 l10 : Option Value) (x : Nat) (st : List Value) (σ : dS), den mX7_isMerged 40 [some (.ref x), l1, l2, l3, l4, l5, l6, l7, l8, l9, l10] st σ = den mX7_isMerged 41 [some (.ref x), l1, l2, l3, l4, l5, l6, l7, l8, l9, l10] (.ref x :: st) σ) ∧
  (∀ (l0 l1 l2 l4 l5 l6 l7 l8 l9 l10 : Option Value) (x : Int32) (st : List Value) (σ : dS), den mX7_isMerged 41 [l0, l1, l2, some (.int x), l4, l5, l6, l7, l8, l9, l10] st σ = den mX7_isMerged 42 [l0, l1, l2, some (.int x), l4, l5, l6, l7, l8, l9, l10] (.int x :: st) σ) ∧
  (∀ (l0 l1 l2 l3 l5 l6 l7 l8 l9 l10 : Option Value) (x : Int32) (st : List Value) (σ : dS), den mX7_isMerged 42 [l0, l1, l2, l3, some (.int x), l5, l6, l7, l8, l9, l10] st σ = den mX7_isMerged 44 [l0, l1, l2, l3, some (.int x), l5, l6, l7, l8, l9, l10] (.int x :: st) σ) ∧
  (∀ (l0 l1 l2 l3 l4 l5 l6 l7 l8 l9 l10 : Option Value) (a0 : Int32) (a1 : Int32) (q : Nat) (σ : dS), den mX7_isMerged 44 [l0, l1, l2, l3, l4, l5, l6, l7, l8, l9, l10] [.int a1, .int a0, .ref q] σ = if disO σ q 6 = true then ((dcall mX7_isAlike [.ref q, .int a0, .int a1] σ).bind fun r => den mX7_isMerged 47 [l0, l1, l2, l3, l4, l5, l6, l7, l8, l9, l10] (r.1.toList ++ []) r.2) else none) ∧
  (∀ (l0 l1 l2 l3 l4 l5 l6 l7 l8 l9 l10 : Option Value) (x : Int32) (st : List Value) (σ : dS), den mX7_isMerged 47 [l0, l1, l2, l3, l4, l5, l6, l7, l8, l9, l10] (.int x :: st) σ = if x = 0 then den mX7_isMerged 65 [l0, l1, l2, l3, l4, l5, l6, l7, l8, l9, l10] st σ else den mX7_isMerged 50 [l0, l1, l2, l3, l4, l5, l6, l7, l8, l9, l10] st σ) ∧
  (∀ (l1 l2 l3 l4 l5 l6 l7 l8 l9 l10 : Option Value) (x : Nat) (st : List Value) (σ : dS), den mX7_isMerged 50 [some (.ref x), l1, l2, l3, l4, l5, l6, l7, l8, l9, l10] st σ = den mX7_isMerged 51 [some (.ref x), l1, l2, l3, l4, l5, l6, l7, l8, l9, l10] (.ref x :: st) σ) ∧
  (∀ (l0 l1 l2 l4 l5 l6 l7 l8 l9 l10 : Option Value) (x : Int32) (st : List Value) (σ : dS), den mX7_isMerged 51 [l0, l1, l2, some (.int x), l4, l5, l6, l7, l8, l9, l10] st σ = den mX7_isMerged 52 [l0, l1, l2, some (.int x), l4, l5, l6, l7, l8, l9, l10] (.int x :: st) σ) ∧
  (∀ (l0 l1 l2 l3 l4 l5 l6 l7 l8 l9 l10 : Option Value) (st : List Value) (σ : dS), den mX7_isMerged 52 [l0, l1, l2, l3, l4, l5, l6, l7, l8, l9, l10] st σ = den mX7_isMerged 53 [l0, l1, l2, l3, l4, l5, l6, l7, l8, l9, l10] (.int (nI 1) :: st) σ) ∧
  (∀ (l0 l1 l2 l3 l4 l5 l6 l7 l8 l9 l10 : Option Value) (a0 : Int32) (a1 : Int32) (q : Nat) (σ : dS), den mX7_isMerged 53 [l0, l1, l2, l3, l4, l5, l6, l7, l8, l9, l10] [.int a1, .int a0, .ref q] σ = if disO σ q 6 = true then ((dcall mX7_of [.ref q, .int a0, .int a1] σ).bind fun r => den mX7_isMerged 56 [l0, l1, l2, l3, l4, l5, l6, l7, l8, l9, l10] (r.1.toList ++ []) r.2) else none) ∧
  (∀ (l1 l2 l3 l4 l5 l6 l7 l8 l9 l10 : Option Value) (x : Nat) (st : List Value) (σ : dS), den mX7_isMerged 56 [some (.ref x), l1, l2, l3, l4, l5, l6, l7, l8, l9, l10] st σ = den mX7_isMerged 57 [some (.ref x), l1, l2, l3, l4, l5, l6, l7, l8, l9, l10] (.ref x :: st) σ) ∧
  (∀ (l0 l1 l3 l4 l5 l6 l7 l8 l9 l10 : Option Value) (x : Int32) (st : List Value) (σ : dS), den mX7_isMerged 57 [l0, l1, some (.int x), l3, l4, l5, l6, l7, l8, l9, l10] st σ = den mX7_isMerged 58 [l0, l1, some (.int x), l3, l4, l5, l6, l7, l8, l9, l10] (.int x :: st) σ) ∧
  (∀ (l0 l1 l2 l3 l4 l5 l6 l7 l8 l9 l10 : Option Value) (st : List Value) (σ : dS), den mX7_isMerged 58 [l0, l1, l2, l3, l4, l5, l6, l7, l8, l9, l10] st σ = den mX7_isMerged 59 [l0, l1, l2, l3, l4, l5, l6, l7, l8, l9, l10] (.int (nI 1) :: st) σ) ∧
  (∀ (l0 l1 l2 l3 l4 l5 l6 l7 l8 l9 l10 : Option Value) (a0 : Int32) (a1 : Int32) (b0 : Int32) (q : Nat) (σ : dS), den mX7_isMerged 59 [l0, l1, l2, l3, l4, l5, l6, l7, l8, l9, l10] [.int a1, .int a0, .ref q, .int b0] σ = if disO σ q 6 = true then ((dcall mX7_of [.ref q, .int a0, .int a1] σ).bind fun r => den mX7_isMerged 62 [l0, l1, l2, l3, l4, l5, l6, l7, l8, l9, l10] (r.1.toList ++ [.int b0]) r.2) else none) ∧
  (∀ (l0 l1 l2 l3 l4 l5 l6 l7 l8 l9 l10 : Option Value) (x y : Int32) (st : List Value) (σ : dS), den mX7_isMerged 62 [l0, l1, l2, l3, l4, l5, l6, l7, l8, l9, l10] (.int y :: .int x :: st) σ = if x = y then den mX7_isMerged 65 [l0, l1, l2, l3, l4, l5, l6, l7, l8, l9, l10] st σ else den mX7_isMerged 67 [l0, l1, l2, l3, l4, l5, l6, l7, l8, l9, l10] st σ) :=
  ⟨fun l1 l2 l3 l4 l5 l6 l7 l8 l9 l10 x st σ => dn_aload_n eX7_isMerged dX7_isMerged_0 rfl,
  fun l0 l2 l3 l4 l5 l6 l7 l8 l9 l10 x st σ => dn_iload_n eX7_isMerged dX7_isMerged_1 rfl,
  fun l0 l1 l2 l3 l4 l5 l6 l7 l8 l9 l10 a0 q σ => rX7_isMerged_2 l0 l1 l2 l3 l4 l5 l6 l7 l8 l9 l10 a0 q σ,
  fun l0 l2 l3 l4 l5 l6 l7 l8 l9 l10 x y st σ => dn_istore_n eX7_isMerged dX7_isMerged_5 rfl,
  fun l1 l2 l3 l4 l5 l6 l7 l8 l9 l10 x st σ => dn_aload_n eX7_isMerged dX7_isMerged_6 rfl,
  fun l0 l1 l2 l3 l4 l5 l6 l7 l8 l9 l10 st σ => dn_iconst eX7_isMerged dX7_isMerged_7 kc_iconst_2,
  fun l0 l2 l3 l4 l5 l6 l7 l8 l9 l10 x st σ => dn_iload_n eX7_isMerged dX7_isMerged_8 rfl,
  fun l0 l1 l2 l3 l4 l5 l6 l7 l8 l9 l10 x y st σ => dn_imul eX7_isMerged dX7_isMerged_9,
  fun l0 l1 l2 l3 l4 l5 l6 l7 l8 l9 l10 st σ => dn_iconst eX7_isMerged dX7_isMerged_10 kc_iconst_1,
  fun l0 l1 l2 l3 l4 l5 l6 l7 l8 l9 l10 x y st σ => dn_iadd eX7_isMerged dX7_isMerged_11,
  fun l0 l1 l2 l3 l4 l5 l6 l7 l8 l9 l10 a0 q σ => rX7_isMerged_12 l0 l1 l2 l3 l4 l5 l6 l7 l8 l9 l10 a0 q σ,
  fun l0 l1 l3 l4 l5 l6 l7 l8 l9 l10 x y st σ => dn_istore_n eX7_isMerged dX7_isMerged_15 rfl,
  fun l1 l2 l3 l4 l5 l6 l7 l8 l9 l10 x st σ => dn_aload_n eX7_isMerged dX7_isMerged_16 rfl,
  fun l0 l1 l2 l3 l4 l5 l6 l7 l8 l9 l10 st σ => dn_iconst eX7_isMerged dX7_isMerged_17 kc_iconst_2,
  fun l0 l2 l3 l4 l5 l6 l7 l8 l9 l10 x st σ => dn_iload_n eX7_isMerged dX7_isMerged_18 rfl,
  fun l0 l1 l2 l3 l4 l5 l6 l7 l8 l9 l10 x y st σ => dn_imul eX7_isMerged dX7_isMerged_19,
  fun l0 l1 l2 l3 l4 l5 l6 l7 l8 l9 l10 st σ => dn_iconst eX7_isMerged dX7_isMerged_20 kc_iconst_2,
  fun l0 l1 l2 l3 l4 l5 l6 l7 l8 l9 l10 x y st σ => dn_iadd eX7_isMerged dX7_isMerged_21,
  fun l0 l1 l2 l3 l4 l5 l6 l7 l8 l9 l10 a0 q σ => rX7_isMerged_22 l0 l1 l2 l3 l4 l5 l6 l7 l8 l9 l10 a0 q σ,
  fun l0 l1 l2 l4 l5 l6 l7 l8 l9 l10 x y st σ => dn_istore eX7_isMerged dX7_isMerged_25 rfl,
  fun l0 l1 l2 l4 l5 l6 l7 l8 l9 l10 x st σ => dn_iload_n eX7_isMerged dX7_isMerged_27 rfl,
  fun l0 l1 l2 l3 l4 l5 l6 l7 l8 l9 l10 st σ => dn_bipush eX7_isMerged dX7_isMerged_28 kc_bipush_m4,
  fun l0 l1 l2 l3 l4 l5 l6 l7 l8 l9 l10 x y st σ => dn_icmp_eq eX7_isMerged dX7_isMerged_30 (by decide),
  fun l0 l1 l2 l3 l5 l6 l7 l8 l9 l10 x st σ => dn_iload eX7_isMerged dX7_isMerged_33 rfl,
  fun l0 l1 l2 l3 l4 l5 l6 l7 l8 l9 l10 st σ => dn_bipush eX7_isMerged dX7_isMerged_35 kc_bipush_m4,
  fun l0 l1 l2 l3 l4 l5 l6 l7 l8 l9 l10 x y st σ => dn_icmp_eq eX7_isMerged dX7_isMerged_37 (by decide),
  fun l1 l2 l3 l4 l5 l6 l7 l8 l9 l10 x st σ => dn_aload_n eX7_isMerged dX7_isMerged_40 rfl,
  fun l0 l1 l2 l4 l5 l6 l7 l8 l9 l10 x st σ => dn_iload_n eX7_isMerged dX7_isMerged_41 rfl,
  fun l0 l1 l2 l3 l5 l6 l7 l8 l9 l10 x st σ => dn_iload eX7_isMerged dX7_isMerged_42 rfl,
  fun l0 l1 l2 l3 l4 l5 l6 l7 l8 l9 l10 a0 a1 q σ => rX7_isMerged_44 l0 l1 l2 l3 l4 l5 l6 l7 l8 l9 l10 a0 a1 q σ,
  fun l0 l1 l2 l3 l4 l5 l6 l7 l8 l9 l10 x st σ => dn_if_eq eX7_isMerged dX7_isMerged_47 (by decide),
  fun l1 l2 l3 l4 l5 l6 l7 l8 l9 l10 x st σ => dn_aload_n eX7_isMerged dX7_isMerged_50 rfl,
  fun l0 l1 l2 l4 l5 l6 l7 l8 l9 l10 x st σ => dn_iload_n eX7_isMerged dX7_isMerged_51 rfl,
  fun l0 l1 l2 l3 l4 l5 l6 l7 l8 l9 l10 st σ => dn_iconst eX7_isMerged dX7_isMerged_52 kc_iconst_1,
  fun l0 l1 l2 l3 l4 l5 l6 l7 l8 l9 l10 a0 a1 q σ => rX7_isMerged_53 l0 l1 l2 l3 l4 l5 l6 l7 l8 l9 l10 a0 a1 q σ,
  fun l1 l2 l3 l4 l5 l6 l7 l8 l9 l10 x st σ => dn_aload_n eX7_isMerged dX7_isMerged_56 rfl,
  fun l0 l1 l3 l4 l5 l6 l7 l8 l9 l10 x st σ => dn_iload_n eX7_isMerged dX7_isMerged_57 rfl,
  fun l0 l1 l2 l3 l4 l5 l6 l7 l8 l9 l10 st σ => dn_iconst eX7_isMerged dX7_isMerged_58 kc_iconst_1,
  fun l0 l1 l2 l3 l4 l5 l6 l7 l8 l9 l10 a0 a1 b0 q σ => rX7_isMerged_59 l0 l1 l2 l3 l4 l5 l6 l7 l8 l9 l10 a0 a1 b0 q σ,
  fun l0 l1 l2 l3 l4 l5 l6 l7 l8 l9 l10 x y st σ => dn_icmp_ne eX7_isMerged dX7_isMerged_62 (by decide)⟩
set_option maxRecDepth 20000 in
theorem SX7_isMerged_1 : (∀ (l0 l1 l2 l3 l4 l5 l6 l7 l8 l9 l10 : Option Value) (st : List Value) (σ : dS), den mX7_isMerged 65 [l0, l1, l2, l3, l4, l5, l6, l7, l8, l9, l10] st σ = den mX7_isMerged 66 [l0, l1, l2, l3, l4, l5, l6, l7, l8, l9, l10] (.int (nI 0) :: st) σ) ∧
  (∀ (l0 l1 l2 l3 l4 l5 l6 l7 l8 l9 l10 : Option Value) (v : Int32) (σ : dS), den mX7_isMerged 66 [l0, l1, l2, l3, l4, l5, l6, l7, l8, l9, l10] [.int v] σ = if v = 0 ∨ v = 1 then some (some (.int v), σ) else none) ∧
  (∀ (l1 l2 l3 l4 l5 l6 l7 l8 l9 l10 : Option Value) (x : Nat) (st : List Value) (σ : dS), den mX7_isMerged 67 [some (.ref x), l1, l2, l3, l4, l5, l6, l7, l8, l9, l10] st σ = den mX7_isMerged 68 [some (.ref x), l1, l2, l3, l4, l5, l6, l7, l8, l9, l10] (.ref x :: st) σ) ∧
  (∀ (l0 l1 l2 l4 l5 l6 l7 l8 l9 l10 : Option Value) (x : Int32) (st : List Value) (σ : dS), den mX7_isMerged 68 [l0, l1, l2, some (.int x), l4, l5, l6, l7, l8, l9, l10] st σ = den mX7_isMerged 69 [l0, l1, l2, some (.int x), l4, l5, l6, l7, l8, l9, l10] (.int x :: st) σ) ∧
  (∀ (l0 l1 l2 l3 l4 l5 l6 l7 l8 l9 l10 : Option Value) (st : List Value) (σ : dS), den mX7_isMerged 69 [l0, l1, l2, l3, l4, l5, l6, l7, l8, l9, l10] st σ = den mX7_isMerged 70 [l0, l1, l2, l3, l4, l5, l6, l7, l8, l9, l10] (.int (nI 0) :: st) σ) ∧
  (∀ (l0 l1 l2 l3 l4 l5 l6 l7 l8 l9 l10 : Option Value) (a0 : Int32) (a1 : Int32) (q : Nat) (σ : dS), den mX7_isMerged 70 [l0, l1, l2, l3, l4, l5, l6, l7, l8, l9, l10] [.int a1, .int a0, .ref q] σ = if disO σ q 6 = true then ((dcall mX7_of [.ref q, .int a0, .int a1] σ).bind fun r => den mX7_isMerged 73 [l0, l1, l2, l3, l4, l5, l6, l7, l8, l9, l10] (r.1.toList ++ []) r.2) else none) ∧
  (∀ (l0 l1 l2 l3 l5 l6 l7 l8 l9 l10 : Option Value) (x : Int32) (y : Int32) (st : List Value) (σ : dS), den mX7_isMerged 73 [l0, l1, l2, l3, some (.int y), l5, l6, l7, l8, l9, l10] (.int x :: st) σ = den mX7_isMerged 75 [l0, l1, l2, l3, some (.int y), some (.int x), l6, l7, l8, l9, l10] st σ) ∧
  (∀ (l1 l2 l3 l4 l5 l6 l7 l8 l9 l10 : Option Value) (x : Nat) (st : List Value) (σ : dS), den mX7_isMerged 75 [some (.ref x), l1, l2, l3, l4, l5, l6, l7, l8, l9, l10] st σ = den mX7_isMerged 76 [some (.ref x), l1, l2, l3, l4, l5, l6, l7, l8, l9, l10] (.ref x :: st) σ) ∧
  (∀ (l0 l1 l2 l4 l5 l6 l7 l8 l9 l10 : Option Value) (x : Int32) (st : List Value) (σ : dS), den mX7_isMerged 76 [l0, l1, l2, some (.int x), l4, l5, l6, l7, l8, l9, l10] st σ = den mX7_isMerged 77 [l0, l1, l2, some (.int x), l4, l5, l6, l7, l8, l9, l10] (.int x :: st) σ) ∧
  (∀ (l0 l1 l2 l3 l4 l5 l6 l7 l8 l9 l10 : Option Value) (st : List Value) (σ : dS), den mX7_isMerged 77 [l0, l1, l2, l3, l4, l5, l6, l7, l8, l9, l10] st σ = den mX7_isMerged 78 [l0, l1, l2, l3, l4, l5, l6, l7, l8, l9, l10] (.int (nI 1) :: st) σ) ∧
  (∀ (l0 l1 l2 l3 l4 l5 l6 l7 l8 l9 l10 : Option Value) (a0 : Int32) (a1 : Int32) (q : Nat) (σ : dS), den mX7_isMerged 78 [l0, l1, l2, l3, l4, l5, l6, l7, l8, l9, l10] [.int a1, .int a0, .ref q] σ = if disO σ q 6 = true then ((dcall mX7_of [.ref q, .int a0, .int a1] σ).bind fun r => den mX7_isMerged 81 [l0, l1, l2, l3, l4, l5, l6, l7, l8, l9, l10] (r.1.toList ++ []) r.2) else none) ∧
  (∀ (l0 l1 l2 l3 l4 l6 l7 l8 l9 l10 : Option Value) (x : Int32) (y : Int32) (st : List Value) (σ : dS), den mX7_isMerged 81 [l0, l1, l2, l3, l4, some (.int y), l6, l7, l8, l9, l10] (.int x :: st) σ = den mX7_isMerged 83 [l0, l1, l2, l3, l4, some (.int y), some (.int x), l7, l8, l9, l10] st σ) ∧
  (∀ (l1 l2 l3 l4 l5 l6 l7 l8 l9 l10 : Option Value) (x : Nat) (st : List Value) (σ : dS), den mX7_isMerged 83 [some (.ref x), l1, l2, l3, l4, l5, l6, l7, l8, l9, l10] st σ = den mX7_isMerged 84 [some (.ref x), l1, l2, l3, l4, l5, l6, l7, l8, l9, l10] (.ref x :: st) σ) ∧
  (∀ (l0 l1 l2 l4 l5 l6 l7 l8 l9 l10 : Option Value) (x : Int32) (st : List Value) (σ : dS), den mX7_isMerged 84 [l0, l1, l2, some (.int x), l4, l5, l6, l7, l8, l9, l10] st σ = den mX7_isMerged 85 [l0, l1, l2, some (.int x), l4, l5, l6, l7, l8, l9, l10] (.int x :: st) σ) ∧
  (∀ (l0 l1 l2 l3 l4 l5 l6 l7 l8 l9 l10 : Option Value) (st : List Value) (σ : dS), den mX7_isMerged 85 [l0, l1, l2, l3, l4, l5, l6, l7, l8, l9, l10] st σ = den mX7_isMerged 86 [l0, l1, l2, l3, l4, l5, l6, l7, l8, l9, l10] (.int (nI 2) :: st) σ) ∧
  (∀ (l0 l1 l2 l3 l4 l5 l6 l7 l8 l9 l10 : Option Value) (a0 : Int32) (a1 : Int32) (q : Nat) (σ : dS), den mX7_isMerged 86 [l0, l1, l2, l3, l4, l5, l6, l7, l8, l9, l10] [.int a1, .int a0, .ref q] σ = if disO σ q 6 = true then ((dcall mX7_of [.ref q, .int a0, .int a1] σ).bind fun r => den mX7_isMerged 89 [l0, l1, l2, l3, l4, l5, l6, l7, l8, l9, l10] (r.1.toList ++ []) r.2) else none) ∧
  (∀ (l0 l1 l2 l3 l4 l5 l7 l8 l9 l10 : Option Value) (x : Int32) (y : Int32) (st : List Value) (σ : dS), den mX7_isMerged 89 [l0, l1, l2, l3, l4, l5, some (.int y), l7, l8, l9, l10] (.int x :: st) σ = den mX7_isMerged 91 [l0, l1, l2, l3, l4, l5, some (.int y), some (.int x), l8, l9, l10] st σ) ∧
  (∀ (l1 l2 l3 l4 l5 l6 l7 l8 l9 l10 : Option Value) (x : Nat) (st : List Value) (σ : dS), den mX7_isMerged 91 [some (.ref x), l1, l2, l3, l4, l5, l6, l7, l8, l9, l10] st σ = den mX7_isMerged 92 [some (.ref x), l1, l2, l3, l4, l5, l6, l7, l8, l9, l10] (.ref x :: st) σ) ∧
  (∀ (l0 l1 l2 l4 l5 l6 l7 l8 l9 l10 : Option Value) (x : Int32) (st : List Value) (σ : dS), den mX7_isMerged 92 [l0, l1, l2, some (.int x), l4, l5, l6, l7, l8, l9, l10] st σ = den mX7_isMerged 93 [l0, l1, l2, some (.int x), l4, l5, l6, l7, l8, l9, l10] (.int x :: st) σ) ∧
  (∀ (l0 l1 l2 l3 l4 l5 l6 l7 l8 l9 l10 : Option Value) (st : List Value) (σ : dS), den mX7_isMerged 93 [l0, l1, l2, l3, l4, l5, l6, l7, l8, l9, l10] st σ = den mX7_isMerged 94 [l0, l1, l2, l3, l4, l5, l6, l7, l8, l9, l10] (.int (nI 3) :: st) σ) ∧
  (∀ (l0 l1 l2 l3 l4 l5 l6 l7 l8 l9 l10 : Option Value) (a0 : Int32) (a1 : Int32) (q : Nat) (σ : dS), den mX7_isMerged 94 [l0, l1, l2, l3, l4, l5, l6, l7, l8, l9, l10] [.int a1, .int a0, .ref q] σ = if disO σ q 6 = true then ((dcall mX7_of [.ref q, .int a0, .int a1] σ).bind fun r => den mX7_isMerged 97 [l0, l1, l2, l3, l4, l5, l6, l7, l8, l9, l10] (r.1.toList ++ []) r.2) else none) ∧
  (∀ (l0 l1 l2 l3 l4 l5 l6 l8 l9 l10 : Option Value) (x : Int32) (y : Int32) (st : List Value) (σ : dS), den mX7_isMerged 97 [l0, l1, l2, l3, l4, l5, l6, some (.int y), l8, l9, l10] (.int x :: st) σ = den mX7_isMerged 99 [l0, l1, l2, l3, l4, l5, l6, some (.int y), some (.int x), l9, l10] st σ) ∧
  (∀ (l1 l2 l3 l4 l5 l6 l7 l8 l9 l10 : Option Value) (x : Nat) (st : List Value) (σ : dS), den mX7_isMerged 99 [some (.ref x), l1, l2, l3, l4, l5, l6, l7, l8, l9, l10] st σ = den mX7_isMerged 100 [some (.ref x), l1, l2, l3, l4, l5, l6, l7, l8, l9, l10] (.ref x :: st) σ) ∧
  (∀ (l0 l1 l3 l4 l5 l6 l7 l8 l9 l10 : Option Value) (x : Int32) (st : List Value) (σ : dS), den mX7_isMerged 100 [l0, l1, some (.int x), l3, l4, l5, l6, l7, l8, l9, l10] st σ = den mX7_isMerged 101 [l0, l1, some (.int x), l3, l4, l5, l6, l7, l8, l9, l10] (.int x :: st) σ) ∧
  (∀ (l0 l1 l2 l3 l4 l5 l6 l7 l8 l9 l10 : Option Value) (st : List Value) (σ : dS), den mX7_isMerged 101 [l0, l1, l2, l3, l4, l5, l6, l7, l8, l9, l10] st σ = den mX7_isMerged 102 [l0, l1, l2, l3, l4, l5, l6, l7, l8, l9, l10] (.int (nI 4) :: st) σ) ∧
  (∀ (l0 l1 l2 l3 l4 l5 l6 l7 l8 l9 l10 : Option Value) (a0 : Int32) (a1 : Int32) (q : Nat) (σ : dS), den mX7_isMerged 102 [l0, l1, l2, l3, l4, l5, l6, l7, l8, l9, l10] [.int a1, .int a0, .ref q] σ = if disO σ q 6 = true then ((dcall mX7_of [.ref q, .int a0, .int a1] σ).bind fun r => den mX7_isMerged 105 [l0, l1, l2, l3, l4, l5, l6, l7, l8, l9, l10] (r.1.toList ++ []) r.2) else none) ∧
  (∀ (l0 l1 l2 l3 l4 l5 l6 l7 l9 l10 : Option Value) (x : Int32) (y : Int32) (st : List Value) (σ : dS), den mX7_isMerged 105 [l0, l1, l2, l3, l4, l5, l6, l7, some (.int y), l9, l10] (.int x :: st) σ = den mX7_isMerged 107 [l0, l1, l2, l3, l4, l5, l6, l7, some (.int y), some (.int x), l10] st σ) ∧
  (∀ (l1 l2 l3 l4 l5 l6 l7 l8 l9 l10 : Option Value) (x : Nat) (st : List Value) (σ : dS), den mX7_isMerged 107 [some (.ref x), l1, l2, l3, l4, l5, l6, l7, l8, l9, l10] st σ = den mX7_isMerged 108 [some (.ref x), l1, l2, l3, l4, l5, l6, l7, l8, l9, l10] (.ref x :: st) σ) ∧
  (∀ (l0 l1 l2 l3 l5 l6 l7 l8 l9 l10 : Option Value) (x : Int32) (st : List Value) (σ : dS), den mX7_isMerged 108 [l0, l1, l2, l3, some (.int x), l5, l6, l7, l8, l9, l10] st σ = den mX7_isMerged 110 [l0, l1, l2, l3, some (.int x), l5, l6, l7, l8, l9, l10] (.int x :: st) σ) ∧
  (∀ (l0 l1 l2 l3 l4 l5 l6 l7 l8 l9 l10 : Option Value) (a0 : Int32) (q : Nat) (σ : dS), den mX7_isMerged 110 [l0, l1, l2, l3, l4, l5, l6, l7, l8, l9, l10] [.int a0, .ref q] σ = if disO σ q 6 = true then ((dcall mX7_codeGoes [.ref q, .int a0] σ).bind fun r => den mX7_isMerged 113 [l0, l1, l2, l3, l4, l5, l6, l7, l8, l9, l10] (r.1.toList ++ []) r.2) else none) ∧
  (∀ (l0 l1 l2 l3 l4 l5 l6 l7 l8 l9 l10 : Option Value) (st : List Value) (σ : dS), den mX7_isMerged 113 [l0, l1, l2, l3, l4, l5, l6, l7, l8, l9, l10] st σ = den mX7_isMerged 114 [l0, l1, l2, l3, l4, l5, l6, l7, l8, l9, l10] (.int (nI 5) :: st) σ) ∧
  (∀ (l0 l1 l2 l4 l5 l6 l7 l8 l9 l10 : Option Value) (x : Int32) (st : List Value) (σ : dS), den mX7_isMerged 114 [l0, l1, l2, some (.int x), l4, l5, l6, l7, l8, l9, l10] st σ = den mX7_isMerged 115 [l0, l1, l2, some (.int x), l4, l5, l6, l7, l8, l9, l10] (.int x :: st) σ) ∧
  (∀ (l0 l1 l2 l3 l4 l5 l6 l7 l8 l9 l10 : Option Value) (x y : Int32) (st : List Value) (σ : dS), den mX7_isMerged 115 [l0, l1, l2, l3, l4, l5, l6, l7, l8, l9, l10] (.int y :: .int x :: st) σ = den mX7_isMerged 116 [l0, l1, l2, l3, l4, l5, l6, l7, l8, l9, l10] (.int (x * y) :: st) σ) ∧
  (∀ (l0 l1 l2 l3 l4 l5 l6 l7 l8 l9 l10 : Option Value) (st : List Value) (σ : dS), den mX7_isMerged 116 [l0, l1, l2, l3, l4, l5, l6, l7, l8, l9, l10] st σ = den mX7_isMerged 117 [l0, l1, l2, l3, l4, l5, l6, l7, l8, l9, l10] (.int (nI 1) :: st) σ) ∧
  (∀ (l0 l1 l2 l3 l4 l5 l6 l7 l8 l9 l10 : Option Value) (x y : Int32) (st : List Value) (σ : dS), den mX7_isMerged 117 [l0, l1, l2, l3, l4, l5, l6, l7, l8, l9, l10] (.int y :: .int x :: st) σ = den mX7_isMerged 118 [l0, l1, l2, l3, l4, l5, l6, l7, l8, l9, l10] (.int (x - y) :: st) σ) ∧
  (∀ (l0 l1 l2 l3 l4 l5 l6 l7 l8 l10 : Option Value) (x : Int32) (y : Int32) (st : List Value) (σ : dS), den mX7_isMerged 118 [l0, l1, l2, l3, l4, l5, l6, l7, l8, some (.int y), l10] (.int x :: st) σ = den mX7_isMerged 120 [l0, l1, l2, l3, l4, l5, l6, l7, l8, some (.int y), some (.int x)] st σ) ∧
  (∀ (l0 l1 l2 l3 l4 l5 l6 l7 l8 l9 l10 : Option Value) (st : List Value) (σ : dS), den mX7_isMerged 122 [l0, l1, l2, l3, l4, l5, l6, l7, l8, l9, l10] st σ = den mX7_isMerged 123 [l0, l1, l2, l3, l4, l5, l6, l7, l8, l9, l10] (.int (nI 5) :: st) σ) ∧
  (∀ (l0 l1 l3 l4 l5 l6 l7 l8 l9 l10 : Option Value) (x : Int32) (st : List Value) (σ : dS), den mX7_isMerged 123 [l0, l1, some (.int x), l3, l4, l5, l6, l7, l8, l9, l10] st σ = den mX7_isMerged 124 [l0, l1, some (.int x), l3, l4, l5, l6, l7, l8, l9, l10] (.int x :: st) σ) ∧
  (∀ (l0 l1 l2 l3 l4 l5 l6 l7 l8 l9 l10 : Option Value) (x y : Int32) (st : List Value) (σ : dS), den mX7_isMerged 124 [l0, l1, l2, l3, l4, l5, l6, l7, l8, l9, l10] (.int y :: .int x :: st) σ = den mX7_isMerged 125 [l0, l1, l2, l3, l4, l5, l6, l7, l8, l9, l10] (.int (x * y) :: st) σ) ∧
  (∀ (l0 l1 l2 l3 l4 l5 l6 l7 l8 l9 l10 : Option Value) (x y : Int32) (st : List Value) (σ : dS), den mX7_isMerged 125 [l0, l1, l2, l3, l4, l5, l6, l7, l8, l9, l10] (.int y :: .int x :: st) σ = if x < y then den mX7_isMerged 150 [l0, l1, l2, l3, l4, l5, l6, l7, l8, l9, l10] st σ else den mX7_isMerged 128 [l0, l1, l2, l3, l4, l5, l6, l7, l8, l9, l10] st σ) :=
  ⟨fun l0 l1 l2 l3 l4 l5 l6 l7 l8 l9 l10 st σ => dn_iconst eX7_isMerged dX7_isMerged_65 kc_iconst_0,
  fun l0 l1 l2 l3 l4 l5 l6 l7 l8 l9 l10 v σ => dn_zreturn eX7_isMerged dX7_isMerged_66 rfl,
  fun l1 l2 l3 l4 l5 l6 l7 l8 l9 l10 x st σ => dn_aload_n eX7_isMerged dX7_isMerged_67 rfl,
  fun l0 l1 l2 l4 l5 l6 l7 l8 l9 l10 x st σ => dn_iload_n eX7_isMerged dX7_isMerged_68 rfl,
  fun l0 l1 l2 l3 l4 l5 l6 l7 l8 l9 l10 st σ => dn_iconst eX7_isMerged dX7_isMerged_69 kc_iconst_0,
  fun l0 l1 l2 l3 l4 l5 l6 l7 l8 l9 l10 a0 a1 q σ => rX7_isMerged_70 l0 l1 l2 l3 l4 l5 l6 l7 l8 l9 l10 a0 a1 q σ,
  fun l0 l1 l2 l3 l5 l6 l7 l8 l9 l10 x y st σ => dn_istore eX7_isMerged dX7_isMerged_73 rfl,
  fun l1 l2 l3 l4 l5 l6 l7 l8 l9 l10 x st σ => dn_aload_n eX7_isMerged dX7_isMerged_75 rfl,
  fun l0 l1 l2 l4 l5 l6 l7 l8 l9 l10 x st σ => dn_iload_n eX7_isMerged dX7_isMerged_76 rfl,
  fun l0 l1 l2 l3 l4 l5 l6 l7 l8 l9 l10 st σ => dn_iconst eX7_isMerged dX7_isMerged_77 kc_iconst_1,
  fun l0 l1 l2 l3 l4 l5 l6 l7 l8 l9 l10 a0 a1 q σ => rX7_isMerged_78 l0 l1 l2 l3 l4 l5 l6 l7 l8 l9 l10 a0 a1 q σ,
  fun l0 l1 l2 l3 l4 l6 l7 l8 l9 l10 x y st σ => dn_istore eX7_isMerged dX7_isMerged_81 rfl,
  fun l1 l2 l3 l4 l5 l6 l7 l8 l9 l10 x st σ => dn_aload_n eX7_isMerged dX7_isMerged_83 rfl,
  fun l0 l1 l2 l4 l5 l6 l7 l8 l9 l10 x st σ => dn_iload_n eX7_isMerged dX7_isMerged_84 rfl,
  fun l0 l1 l2 l3 l4 l5 l6 l7 l8 l9 l10 st σ => dn_iconst eX7_isMerged dX7_isMerged_85 kc_iconst_2,
  fun l0 l1 l2 l3 l4 l5 l6 l7 l8 l9 l10 a0 a1 q σ => rX7_isMerged_86 l0 l1 l2 l3 l4 l5 l6 l7 l8 l9 l10 a0 a1 q σ,
  fun l0 l1 l2 l3 l4 l5 l7 l8 l9 l10 x y st σ => dn_istore eX7_isMerged dX7_isMerged_89 rfl,
  fun l1 l2 l3 l4 l5 l6 l7 l8 l9 l10 x st σ => dn_aload_n eX7_isMerged dX7_isMerged_91 rfl,
  fun l0 l1 l2 l4 l5 l6 l7 l8 l9 l10 x st σ => dn_iload_n eX7_isMerged dX7_isMerged_92 rfl,
  fun l0 l1 l2 l3 l4 l5 l6 l7 l8 l9 l10 st σ => dn_iconst eX7_isMerged dX7_isMerged_93 kc_iconst_3,
  fun l0 l1 l2 l3 l4 l5 l6 l7 l8 l9 l10 a0 a1 q σ => rX7_isMerged_94 l0 l1 l2 l3 l4 l5 l6 l7 l8 l9 l10 a0 a1 q σ,
  fun l0 l1 l2 l3 l4 l5 l6 l8 l9 l10 x y st σ => dn_istore eX7_isMerged dX7_isMerged_97 rfl,
  fun l1 l2 l3 l4 l5 l6 l7 l8 l9 l10 x st σ => dn_aload_n eX7_isMerged dX7_isMerged_99 rfl,
  fun l0 l1 l3 l4 l5 l6 l7 l8 l9 l10 x st σ => dn_iload_n eX7_isMerged dX7_isMerged_100 rfl,
  fun l0 l1 l2 l3 l4 l5 l6 l7 l8 l9 l10 st σ => dn_iconst eX7_isMerged dX7_isMerged_101 kc_iconst_4,
  fun l0 l1 l2 l3 l4 l5 l6 l7 l8 l9 l10 a0 a1 q σ => rX7_isMerged_102 l0 l1 l2 l3 l4 l5 l6 l7 l8 l9 l10 a0 a1 q σ,
  fun l0 l1 l2 l3 l4 l5 l6 l7 l9 l10 x y st σ => dn_istore eX7_isMerged dX7_isMerged_105 rfl,
  fun l1 l2 l3 l4 l5 l6 l7 l8 l9 l10 x st σ => dn_aload_n eX7_isMerged dX7_isMerged_107 rfl,
  fun l0 l1 l2 l3 l5 l6 l7 l8 l9 l10 x st σ => dn_iload eX7_isMerged dX7_isMerged_108 rfl,
  fun l0 l1 l2 l3 l4 l5 l6 l7 l8 l9 l10 a0 q σ => rX7_isMerged_110 l0 l1 l2 l3 l4 l5 l6 l7 l8 l9 l10 a0 q σ,
  fun l0 l1 l2 l3 l4 l5 l6 l7 l8 l9 l10 st σ => dn_iconst eX7_isMerged dX7_isMerged_113 kc_iconst_5,
  fun l0 l1 l2 l4 l5 l6 l7 l8 l9 l10 x st σ => dn_iload_n eX7_isMerged dX7_isMerged_114 rfl,
  fun l0 l1 l2 l3 l4 l5 l6 l7 l8 l9 l10 x y st σ => dn_imul eX7_isMerged dX7_isMerged_115,
  fun l0 l1 l2 l3 l4 l5 l6 l7 l8 l9 l10 st σ => dn_iconst eX7_isMerged dX7_isMerged_116 kc_iconst_1,
  fun l0 l1 l2 l3 l4 l5 l6 l7 l8 l9 l10 x y st σ => dn_isub eX7_isMerged dX7_isMerged_117,
  fun l0 l1 l2 l3 l4 l5 l6 l7 l8 l10 x y st σ => dn_istore eX7_isMerged dX7_isMerged_118 rfl,
  fun l0 l1 l2 l3 l4 l5 l6 l7 l8 l9 l10 st σ => dn_iconst eX7_isMerged dX7_isMerged_122 kc_iconst_5,
  fun l0 l1 l3 l4 l5 l6 l7 l8 l9 l10 x st σ => dn_iload_n eX7_isMerged dX7_isMerged_123 rfl,
  fun l0 l1 l2 l3 l4 l5 l6 l7 l8 l9 l10 x y st σ => dn_imul eX7_isMerged dX7_isMerged_124,
  fun l0 l1 l2 l3 l4 l5 l6 l7 l8 l9 l10 x y st σ => dn_icmp_lt eX7_isMerged dX7_isMerged_125 (by decide)⟩
set_option maxRecDepth 20000 in
theorem SX7_isMerged_2 : (∀ (l1 l2 l3 l4 l5 l6 l7 l8 l9 l10 : Option Value) (x : Nat) (st : List Value) (σ : dS), den mX7_isMerged 128 [some (.ref x), l1, l2, l3, l4, l5, l6, l7, l8, l9, l10] st σ = den mX7_isMerged 129 [some (.ref x), l1, l2, l3, l4, l5, l6, l7, l8, l9, l10] (.ref x :: st) σ) ∧
  (∀ (l0 l1 l2 l3 l4 l5 l6 l7 l8 l9 l10 : Option Value) (q : Nat) (st : List Value) (σ : dS), den mX7_isMerged 129 [l0, l1, l2, l3, l4, l5, l6, l7, l8, l9, l10] (.ref q :: st) σ = (dget σ q 6 0).bind fun v => den mX7_isMerged 132 [l0, l1, l2, l3, l4, l5, l6, l7, l8, l9, l10] (v :: st) σ) ∧
  (∀ (l0 l1 l2 l3 l4 l5 l6 l7 l8 l9 : Option Value) (x : Int32) (st : List Value) (σ : dS), den mX7_isMerged 132 [l0, l1, l2, l3, l4, l5, l6, l7, l8, l9, some (.int x)] st σ = den mX7_isMerged 134 [l0, l1, l2, l3, l4, l5, l6, l7, l8, l9, some (.int x)] (.int x :: st) σ) ∧
  (∀ (l0 l1 l2 l3 l4 l5 l6 l7 l8 l9 l10 : Option Value) (st : List Value) (σ : dS), den mX7_isMerged 134 [l0, l1, l2, l3, l4, l5, l6, l7, l8, l9, l10] st σ = den mX7_isMerged 135 [l0, l1, l2, l3, l4, l5, l6, l7, l8, l9, l10] (.int (nI 5) :: st) σ) ∧
  (∀ (l0 l1 l2 l3 l4 l5 l6 l7 l8 l9 l10 : Option Value) (x y : Int32) (st : List Value) (σ : dS), den mX7_isMerged 135 [l0, l1, l2, l3, l4, l5, l6, l7, l8, l9, l10] (.int y :: .int x :: st) σ = den mX7_isMerged 136 [l0, l1, l2, l3, l4, l5, l6, l7, l8, l9, l10] (.int (x + y) :: st) σ) ∧
  (∀ (l1 l2 l3 l4 l5 l6 l7 l8 l9 l10 : Option Value) (x : Nat) (st : List Value) (σ : dS), den mX7_isMerged 136 [some (.ref x), l1, l2, l3, l4, l5, l6, l7, l8, l9, l10] st σ = den mX7_isMerged 137 [some (.ref x), l1, l2, l3, l4, l5, l6, l7, l8, l9, l10] (.ref x :: st) σ) ∧
  (∀ (l0 l1 l2 l3 l4 l5 l6 l7 l8 l9 l10 : Option Value) (q : Nat) (st : List Value) (σ : dS), den mX7_isMerged 137 [l0, l1, l2, l3, l4, l5, l6, l7, l8, l9, l10] (.ref q :: st) σ = (dget σ q 6 0).bind fun v => den mX7_isMerged 140 [l0, l1, l2, l3, l4, l5, l6, l7, l8, l9, l10] (v :: st) σ) ∧
  (∀ (l0 l1 l2 l3 l4 l5 l6 l7 l8 l9 : Option Value) (x : Int32) (st : List Value) (σ : dS), den mX7_isMerged 140 [l0, l1, l2, l3, l4, l5, l6, l7, l8, l9, some (.int x)] st σ = den mX7_isMerged 142 [l0, l1, l2, l3, l4, l5, l6, l7, l8, l9, some (.int x)] (.int x :: st) σ) ∧
  (∀ (l0 l1 l2 l3 l4 l5 l6 l7 l8 l9 l10 : Option Value) (q : Nat) (i : Int32) (st : List Value) (σ : dS), den mX7_isMerged 142 [l0, l1, l2, l3, l4, l5, l6, l7, l8, l9, l10] (.int i :: .ref q :: st) σ = if q ≤ dN then (dald σ q 0 i).bind (fun v => den mX7_isMerged 143 [l0, l1, l2, l3, l4, l5, l6, l7, l8, l9, l10] (.int v :: st) σ) else none) ∧
  (∀ (l0 l1 l2 l3 l4 l5 l6 l7 l8 l9 l10 : Option Value) (q : Nat) (i x : Int32) (st : List Value) (σ : dS), den mX7_isMerged 143 [l0, l1, l2, l3, l4, l5, l6, l7, l8, l9, l10] (.int x :: .int i :: .ref q :: st) σ = (dast σ q 0 i x).bind fun τ => den mX7_isMerged 144 [l0, l1, l2, l3, l4, l5, l6, l7, l8, l9, l10] st τ) ∧
  (∀ (l0 l1 l2 l3 l4 l5 l6 l7 l8 : Option Value) (x : Int32) (y : Int32) (st : List Value) (σ : dS), den mX7_isMerged 144 [l0, l1, l2, l3, l4, l5, l6, l7, l8, some (.int y), some (.int x)] st σ = den mX7_isMerged 147 [l0, l1, l2, l3, l4, l5, l6, l7, l8, some (.int y), some (.int (x + (-1)))] st σ) ∧
  (∀ (l0 l1 l2 l3 l4 l5 l6 l7 l8 l9 l10 : Option Value) (st : List Value) (σ : dS), den mX7_isMerged 147 [l0, l1, l2, l3, l4, l5, l6, l7, l8, l9, l10] st σ = den mX7_isMerged 120 [l0, l1, l2, l3, l4, l5, l6, l7, l8, l9, l10] st σ) ∧
  (∀ (l1 l2 l3 l4 l5 l6 l7 l8 l9 l10 : Option Value) (x : Nat) (st : List Value) (σ : dS), den mX7_isMerged 150 [some (.ref x), l1, l2, l3, l4, l5, l6, l7, l8, l9, l10] st σ = den mX7_isMerged 151 [some (.ref x), l1, l2, l3, l4, l5, l6, l7, l8, l9, l10] (.ref x :: st) σ) ∧
  (∀ (l0 l1 l2 l3 l4 l5 l6 l7 l8 l9 l10 : Option Value) (q : Nat) (st : List Value) (σ : dS), den mX7_isMerged 151 [l0, l1, l2, l3, l4, l5, l6, l7, l8, l9, l10] (.ref q :: st) σ = (dget σ q 6 0).bind fun v => den mX7_isMerged 154 [l0, l1, l2, l3, l4, l5, l6, l7, l8, l9, l10] (v :: st) σ) ∧
  (∀ (l0 l1 l2 l3 l4 l5 l6 l7 l8 l9 l10 : Option Value) (st : List Value) (σ : dS), den mX7_isMerged 154 [l0, l1, l2, l3, l4, l5, l6, l7, l8, l9, l10] st σ = den mX7_isMerged 155 [l0, l1, l2, l3, l4, l5, l6, l7, l8, l9, l10] (.int (nI 5) :: st) σ) ∧
  (∀ (l0 l1 l3 l4 l5 l6 l7 l8 l9 l10 : Option Value) (x : Int32) (st : List Value) (σ : dS), den mX7_isMerged 155 [l0, l1, some (.int x), l3, l4, l5, l6, l7, l8, l9, l10] st σ = den mX7_isMerged 156 [l0, l1, some (.int x), l3, l4, l5, l6, l7, l8, l9, l10] (.int x :: st) σ) ∧
  (∀ (l0 l1 l2 l3 l4 l5 l6 l7 l8 l9 l10 : Option Value) (x y : Int32) (st : List Value) (σ : dS), den mX7_isMerged 156 [l0, l1, l2, l3, l4, l5, l6, l7, l8, l9, l10] (.int y :: .int x :: st) σ = den mX7_isMerged 157 [l0, l1, l2, l3, l4, l5, l6, l7, l8, l9, l10] (.int (x * y) :: st) σ) ∧
  (∀ (l0 l1 l2 l3 l4 l5 l6 l7 l8 l9 l10 : Option Value) (st : List Value) (σ : dS), den mX7_isMerged 157 [l0, l1, l2, l3, l4, l5, l6, l7, l8, l9, l10] st σ = den mX7_isMerged 158 [l0, l1, l2, l3, l4, l5, l6, l7, l8, l9, l10] (.int (nI 0) :: st) σ) ∧
  (∀ (l0 l1 l2 l3 l4 l5 l6 l7 l8 l9 l10 : Option Value) (x y : Int32) (st : List Value) (σ : dS), den mX7_isMerged 158 [l0, l1, l2, l3, l4, l5, l6, l7, l8, l9, l10] (.int y :: .int x :: st) σ = den mX7_isMerged 159 [l0, l1, l2, l3, l4, l5, l6, l7, l8, l9, l10] (.int (x + y) :: st) σ) ∧
  (∀ (l0 l1 l2 l3 l4 l6 l7 l8 l9 l10 : Option Value) (x : Int32) (st : List Value) (σ : dS), den mX7_isMerged 159 [l0, l1, l2, l3, l4, some (.int x), l6, l7, l8, l9, l10] st σ = den mX7_isMerged 161 [l0, l1, l2, l3, l4, some (.int x), l6, l7, l8, l9, l10] (.int x :: st) σ) ∧
  (∀ (l0 l1 l2 l3 l4 l5 l6 l7 l8 l9 l10 : Option Value) (q : Nat) (i x : Int32) (st : List Value) (σ : dS), den mX7_isMerged 161 [l0, l1, l2, l3, l4, l5, l6, l7, l8, l9, l10] (.int x :: .int i :: .ref q :: st) σ = (dast σ q 0 i x).bind fun τ => den mX7_isMerged 162 [l0, l1, l2, l3, l4, l5, l6, l7, l8, l9, l10] st τ) ∧
  (∀ (l1 l2 l3 l4 l5 l6 l7 l8 l9 l10 : Option Value) (x : Nat) (st : List Value) (σ : dS), den mX7_isMerged 162 [some (.ref x), l1, l2, l3, l4, l5, l6, l7, l8, l9, l10] st σ = den mX7_isMerged 163 [some (.ref x), l1, l2, l3, l4, l5, l6, l7, l8, l9, l10] (.ref x :: st) σ) ∧
  (∀ (l0 l1 l2 l3 l4 l5 l6 l7 l8 l9 l10 : Option Value) (q : Nat) (st : List Value) (σ : dS), den mX7_isMerged 163 [l0, l1, l2, l3, l4, l5, l6, l7, l8, l9, l10] (.ref q :: st) σ = (dget σ q 6 0).bind fun v => den mX7_isMerged 166 [l0, l1, l2, l3, l4, l5, l6, l7, l8, l9, l10] (v :: st) σ) ∧
  (∀ (l0 l1 l2 l3 l4 l5 l6 l7 l8 l9 l10 : Option Value) (st : List Value) (σ : dS), den mX7_isMerged 166 [l0, l1, l2, l3, l4, l5, l6, l7, l8, l9, l10] st σ = den mX7_isMerged 167 [l0, l1, l2, l3, l4, l5, l6, l7, l8, l9, l10] (.int (nI 5) :: st) σ) ∧
  (∀ (l0 l1 l3 l4 l5 l6 l7 l8 l9 l10 : Option Value) (x : Int32) (st : List Value) (σ : dS), den mX7_isMerged 167 [l0, l1, some (.int x), l3, l4, l5, l6, l7, l8, l9, l10] st σ = den mX7_isMerged 168 [l0, l1, some (.int x), l3, l4, l5, l6, l7, l8, l9, l10] (.int x :: st) σ) ∧
  (∀ (l0 l1 l2 l3 l4 l5 l6 l7 l8 l9 l10 : Option Value) (x y : Int32) (st : List Value) (σ : dS), den mX7_isMerged 168 [l0, l1, l2, l3, l4, l5, l6, l7, l8, l9, l10] (.int y :: .int x :: st) σ = den mX7_isMerged 169 [l0, l1, l2, l3, l4, l5, l6, l7, l8, l9, l10] (.int (x * y) :: st) σ) ∧
  (∀ (l0 l1 l2 l3 l4 l5 l6 l7 l8 l9 l10 : Option Value) (st : List Value) (σ : dS), den mX7_isMerged 169 [l0, l1, l2, l3, l4, l5, l6, l7, l8, l9, l10] st σ = den mX7_isMerged 170 [l0, l1, l2, l3, l4, l5, l6, l7, l8, l9, l10] (.int (nI 1) :: st) σ) ∧
  (∀ (l0 l1 l2 l3 l4 l5 l6 l7 l8 l9 l10 : Option Value) (x y : Int32) (st : List Value) (σ : dS), den mX7_isMerged 170 [l0, l1, l2, l3, l4, l5, l6, l7, l8, l9, l10] (.int y :: .int x :: st) σ = den mX7_isMerged 171 [l0, l1, l2, l3, l4, l5, l6, l7, l8, l9, l10] (.int (x + y) :: st) σ) ∧
  (∀ (l0 l1 l2 l3 l4 l5 l7 l8 l9 l10 : Option Value) (x : Int32) (st : List Value) (σ : dS), den mX7_isMerged 171 [l0, l1, l2, l3, l4, l5, some (.int x), l7, l8, l9, l10] st σ = den mX7_isMerged 173 [l0, l1, l2, l3, l4, l5, some (.int x), l7, l8, l9, l10] (.int x :: st) σ) ∧
  (∀ (l0 l1 l2 l3 l4 l5 l6 l7 l8 l9 l10 : Option Value) (q : Nat) (i x : Int32) (st : List Value) (σ : dS), den mX7_isMerged 173 [l0, l1, l2, l3, l4, l5, l6, l7, l8, l9, l10] (.int x :: .int i :: .ref q :: st) σ = (dast σ q 0 i x).bind fun τ => den mX7_isMerged 174 [l0, l1, l2, l3, l4, l5, l6, l7, l8, l9, l10] st τ) ∧
  (∀ (l1 l2 l3 l4 l5 l6 l7 l8 l9 l10 : Option Value) (x : Nat) (st : List Value) (σ : dS), den mX7_isMerged 174 [some (.ref x), l1, l2, l3, l4, l5, l6, l7, l8, l9, l10] st σ = den mX7_isMerged 175 [some (.ref x), l1, l2, l3, l4, l5, l6, l7, l8, l9, l10] (.ref x :: st) σ) ∧
  (∀ (l0 l1 l2 l3 l4 l5 l6 l7 l8 l9 l10 : Option Value) (q : Nat) (st : List Value) (σ : dS), den mX7_isMerged 175 [l0, l1, l2, l3, l4, l5, l6, l7, l8, l9, l10] (.ref q :: st) σ = (dget σ q 6 0).bind fun v => den mX7_isMerged 178 [l0, l1, l2, l3, l4, l5, l6, l7, l8, l9, l10] (v :: st) σ) ∧
  (∀ (l0 l1 l2 l3 l4 l5 l6 l7 l8 l9 l10 : Option Value) (st : List Value) (σ : dS), den mX7_isMerged 178 [l0, l1, l2, l3, l4, l5, l6, l7, l8, l9, l10] st σ = den mX7_isMerged 179 [l0, l1, l2, l3, l4, l5, l6, l7, l8, l9, l10] (.int (nI 5) :: st) σ) ∧
  (∀ (l0 l1 l3 l4 l5 l6 l7 l8 l9 l10 : Option Value) (x : Int32) (st : List Value) (σ : dS), den mX7_isMerged 179 [l0, l1, some (.int x), l3, l4, l5, l6, l7, l8, l9, l10] st σ = den mX7_isMerged 180 [l0, l1, some (.int x), l3, l4, l5, l6, l7, l8, l9, l10] (.int x :: st) σ) ∧
  (∀ (l0 l1 l2 l3 l4 l5 l6 l7 l8 l9 l10 : Option Value) (x y : Int32) (st : List Value) (σ : dS), den mX7_isMerged 180 [l0, l1, l2, l3, l4, l5, l6, l7, l8, l9, l10] (.int y :: .int x :: st) σ = den mX7_isMerged 181 [l0, l1, l2, l3, l4, l5, l6, l7, l8, l9, l10] (.int (x * y) :: st) σ) ∧
  (∀ (l0 l1 l2 l3 l4 l5 l6 l7 l8 l9 l10 : Option Value) (st : List Value) (σ : dS), den mX7_isMerged 181 [l0, l1, l2, l3, l4, l5, l6, l7, l8, l9, l10] st σ = den mX7_isMerged 182 [l0, l1, l2, l3, l4, l5, l6, l7, l8, l9, l10] (.int (nI 2) :: st) σ) ∧
  (∀ (l0 l1 l2 l3 l4 l5 l6 l7 l8 l9 l10 : Option Value) (x y : Int32) (st : List Value) (σ : dS), den mX7_isMerged 182 [l0, l1, l2, l3, l4, l5, l6, l7, l8, l9, l10] (.int y :: .int x :: st) σ = den mX7_isMerged 183 [l0, l1, l2, l3, l4, l5, l6, l7, l8, l9, l10] (.int (x + y) :: st) σ) ∧
  (∀ (l0 l1 l2 l3 l4 l5 l6 l8 l9 l10 : Option Value) (x : Int32) (st : List Value) (σ : dS), den mX7_isMerged 183 [l0, l1, l2, l3, l4, l5, l6, some (.int x), l8, l9, l10] st σ = den mX7_isMerged 185 [l0, l1, l2, l3, l4, l5, l6, some (.int x), l8, l9, l10] (.int x :: st) σ) ∧
  (∀ (l0 l1 l2 l3 l4 l5 l6 l7 l8 l9 l10 : Option Value) (q : Nat) (i x : Int32) (st : List Value) (σ : dS), den mX7_isMerged 185 [l0, l1, l2, l3, l4, l5, l6, l7, l8, l9, l10] (.int x :: .int i :: .ref q :: st) σ = (dast σ q 0 i x).bind fun τ => den mX7_isMerged 186 [l0, l1, l2, l3, l4, l5, l6, l7, l8, l9, l10] st τ) ∧
  (∀ (l1 l2 l3 l4 l5 l6 l7 l8 l9 l10 : Option Value) (x : Nat) (st : List Value) (σ : dS), den mX7_isMerged 186 [some (.ref x), l1, l2, l3, l4, l5, l6, l7, l8, l9, l10] st σ = den mX7_isMerged 187 [some (.ref x), l1, l2, l3, l4, l5, l6, l7, l8, l9, l10] (.ref x :: st) σ) :=
  ⟨fun l1 l2 l3 l4 l5 l6 l7 l8 l9 l10 x st σ => dn_aload_n eX7_isMerged dX7_isMerged_128 rfl,
  fun l0 l1 l2 l3 l4 l5 l6 l7 l8 l9 l10 q st σ => dn_getfield (f := (6, 0, 771)) eX7_isMerged dX7_isMerged_129 (by decide +kernel),
  fun l0 l1 l2 l3 l4 l5 l6 l7 l8 l9 x st σ => dn_iload eX7_isMerged dX7_isMerged_132 rfl,
  fun l0 l1 l2 l3 l4 l5 l6 l7 l8 l9 l10 st σ => dn_iconst eX7_isMerged dX7_isMerged_134 kc_iconst_5,
  fun l0 l1 l2 l3 l4 l5 l6 l7 l8 l9 l10 x y st σ => dn_iadd eX7_isMerged dX7_isMerged_135,
  fun l1 l2 l3 l4 l5 l6 l7 l8 l9 l10 x st σ => dn_aload_n eX7_isMerged dX7_isMerged_136 rfl,
  fun l0 l1 l2 l3 l4 l5 l6 l7 l8 l9 l10 q st σ => dn_getfield (f := (6, 0, 771)) eX7_isMerged dX7_isMerged_137 (by decide +kernel),
  fun l0 l1 l2 l3 l4 l5 l6 l7 l8 l9 x st σ => dn_iload eX7_isMerged dX7_isMerged_140 rfl,
  fun l0 l1 l2 l3 l4 l5 l6 l7 l8 l9 l10 q i st σ => dn_iaload eX7_isMerged dX7_isMerged_142,
  fun l0 l1 l2 l3 l4 l5 l6 l7 l8 l9 l10 q i x st σ => dn_iastore eX7_isMerged dX7_isMerged_143,
  fun l0 l1 l2 l3 l4 l5 l6 l7 l8 x y st σ => dn_iinc (v := (-1)) eX7_isMerged dX7_isMerged_144 rfl kc_iconst_m1 rfl,
  fun l0 l1 l2 l3 l4 l5 l6 l7 l8 l9 l10 st σ => dn_goto eX7_isMerged dX7_isMerged_147 (by decide),
  fun l1 l2 l3 l4 l5 l6 l7 l8 l9 l10 x st σ => dn_aload_n eX7_isMerged dX7_isMerged_150 rfl,
  fun l0 l1 l2 l3 l4 l5 l6 l7 l8 l9 l10 q st σ => dn_getfield (f := (6, 0, 771)) eX7_isMerged dX7_isMerged_151 (by decide +kernel),
  fun l0 l1 l2 l3 l4 l5 l6 l7 l8 l9 l10 st σ => dn_iconst eX7_isMerged dX7_isMerged_154 kc_iconst_5,
  fun l0 l1 l3 l4 l5 l6 l7 l8 l9 l10 x st σ => dn_iload_n eX7_isMerged dX7_isMerged_155 rfl,
  fun l0 l1 l2 l3 l4 l5 l6 l7 l8 l9 l10 x y st σ => dn_imul eX7_isMerged dX7_isMerged_156,
  fun l0 l1 l2 l3 l4 l5 l6 l7 l8 l9 l10 st σ => dn_iconst eX7_isMerged dX7_isMerged_157 kc_iconst_0,
  fun l0 l1 l2 l3 l4 l5 l6 l7 l8 l9 l10 x y st σ => dn_iadd eX7_isMerged dX7_isMerged_158,
  fun l0 l1 l2 l3 l4 l6 l7 l8 l9 l10 x st σ => dn_iload eX7_isMerged dX7_isMerged_159 rfl,
  fun l0 l1 l2 l3 l4 l5 l6 l7 l8 l9 l10 q i x st σ => dn_iastore eX7_isMerged dX7_isMerged_161,
  fun l1 l2 l3 l4 l5 l6 l7 l8 l9 l10 x st σ => dn_aload_n eX7_isMerged dX7_isMerged_162 rfl,
  fun l0 l1 l2 l3 l4 l5 l6 l7 l8 l9 l10 q st σ => dn_getfield (f := (6, 0, 771)) eX7_isMerged dX7_isMerged_163 (by decide +kernel),
  fun l0 l1 l2 l3 l4 l5 l6 l7 l8 l9 l10 st σ => dn_iconst eX7_isMerged dX7_isMerged_166 kc_iconst_5,
  fun l0 l1 l3 l4 l5 l6 l7 l8 l9 l10 x st σ => dn_iload_n eX7_isMerged dX7_isMerged_167 rfl,
  fun l0 l1 l2 l3 l4 l5 l6 l7 l8 l9 l10 x y st σ => dn_imul eX7_isMerged dX7_isMerged_168,
  fun l0 l1 l2 l3 l4 l5 l6 l7 l8 l9 l10 st σ => dn_iconst eX7_isMerged dX7_isMerged_169 kc_iconst_1,
  fun l0 l1 l2 l3 l4 l5 l6 l7 l8 l9 l10 x y st σ => dn_iadd eX7_isMerged dX7_isMerged_170,
  fun l0 l1 l2 l3 l4 l5 l7 l8 l9 l10 x st σ => dn_iload eX7_isMerged dX7_isMerged_171 rfl,
  fun l0 l1 l2 l3 l4 l5 l6 l7 l8 l9 l10 q i x st σ => dn_iastore eX7_isMerged dX7_isMerged_173,
  fun l1 l2 l3 l4 l5 l6 l7 l8 l9 l10 x st σ => dn_aload_n eX7_isMerged dX7_isMerged_174 rfl,
  fun l0 l1 l2 l3 l4 l5 l6 l7 l8 l9 l10 q st σ => dn_getfield (f := (6, 0, 771)) eX7_isMerged dX7_isMerged_175 (by decide +kernel),
  fun l0 l1 l2 l3 l4 l5 l6 l7 l8 l9 l10 st σ => dn_iconst eX7_isMerged dX7_isMerged_178 kc_iconst_5,
  fun l0 l1 l3 l4 l5 l6 l7 l8 l9 l10 x st σ => dn_iload_n eX7_isMerged dX7_isMerged_179 rfl,
  fun l0 l1 l2 l3 l4 l5 l6 l7 l8 l9 l10 x y st σ => dn_imul eX7_isMerged dX7_isMerged_180,
  fun l0 l1 l2 l3 l4 l5 l6 l7 l8 l9 l10 st σ => dn_iconst eX7_isMerged dX7_isMerged_181 kc_iconst_2,
  fun l0 l1 l2 l3 l4 l5 l6 l7 l8 l9 l10 x y st σ => dn_iadd eX7_isMerged dX7_isMerged_182,
  fun l0 l1 l2 l3 l4 l5 l6 l8 l9 l10 x st σ => dn_iload eX7_isMerged dX7_isMerged_183 rfl,
  fun l0 l1 l2 l3 l4 l5 l6 l7 l8 l9 l10 q i x st σ => dn_iastore eX7_isMerged dX7_isMerged_185,
  fun l1 l2 l3 l4 l5 l6 l7 l8 l9 l10 x st σ => dn_aload_n eX7_isMerged dX7_isMerged_186 rfl⟩
set_option maxRecDepth 20000 in
theorem SX7_isMerged_3 : (∀ (l0 l1 l2 l3 l4 l5 l6 l7 l8 l9 l10 : Option Value) (q : Nat) (st : List Value) (σ : dS), den mX7_isMerged 187 [l0, l1, l2, l3, l4, l5, l6, l7, l8, l9, l10] (.ref q :: st) σ = (dget σ q 6 0).bind fun v => den mX7_isMerged 190 [l0, l1, l2, l3, l4, l5, l6, l7, l8, l9, l10] (v :: st) σ) ∧
  (∀ (l0 l1 l2 l3 l4 l5 l6 l7 l8 l9 l10 : Option Value) (st : List Value) (σ : dS), den mX7_isMerged 190 [l0, l1, l2, l3, l4, l5, l6, l7, l8, l9, l10] st σ = den mX7_isMerged 191 [l0, l1, l2, l3, l4, l5, l6, l7, l8, l9, l10] (.int (nI 5) :: st) σ) ∧
  (∀ (l0 l1 l3 l4 l5 l6 l7 l8 l9 l10 : Option Value) (x : Int32) (st : List Value) (σ : dS), den mX7_isMerged 191 [l0, l1, some (.int x), l3, l4, l5, l6, l7, l8, l9, l10] st σ = den mX7_isMerged 192 [l0, l1, some (.int x), l3, l4, l5, l6, l7, l8, l9, l10] (.int x :: st) σ) ∧
  (∀ (l0 l1 l2 l3 l4 l5 l6 l7 l8 l9 l10 : Option Value) (x y : Int32) (st : List Value) (σ : dS), den mX7_isMerged 192 [l0, l1, l2, l3, l4, l5, l6, l7, l8, l9, l10] (.int y :: .int x :: st) σ = den mX7_isMerged 193 [l0, l1, l2, l3, l4, l5, l6, l7, l8, l9, l10] (.int (x * y) :: st) σ) ∧
  (∀ (l0 l1 l2 l3 l4 l5 l6 l7 l8 l9 l10 : Option Value) (st : List Value) (σ : dS), den mX7_isMerged 193 [l0, l1, l2, l3, l4, l5, l6, l7, l8, l9, l10] st σ = den mX7_isMerged 194 [l0, l1, l2, l3, l4, l5, l6, l7, l8, l9, l10] (.int (nI 3) :: st) σ) ∧
  (∀ (l0 l1 l2 l3 l4 l5 l6 l7 l8 l9 l10 : Option Value) (x y : Int32) (st : List Value) (σ : dS), den mX7_isMerged 194 [l0, l1, l2, l3, l4, l5, l6, l7, l8, l9, l10] (.int y :: .int x :: st) σ = den mX7_isMerged 195 [l0, l1, l2, l3, l4, l5, l6, l7, l8, l9, l10] (.int (x + y) :: st) σ) ∧
  (∀ (l0 l1 l2 l3 l4 l5 l6 l7 l9 l10 : Option Value) (x : Int32) (st : List Value) (σ : dS), den mX7_isMerged 195 [l0, l1, l2, l3, l4, l5, l6, l7, some (.int x), l9, l10] st σ = den mX7_isMerged 197 [l0, l1, l2, l3, l4, l5, l6, l7, some (.int x), l9, l10] (.int x :: st) σ) ∧
  (∀ (l0 l1 l2 l3 l4 l5 l6 l7 l8 l9 l10 : Option Value) (q : Nat) (i x : Int32) (st : List Value) (σ : dS), den mX7_isMerged 197 [l0, l1, l2, l3, l4, l5, l6, l7, l8, l9, l10] (.int x :: .int i :: .ref q :: st) σ = (dast σ q 0 i x).bind fun τ => den mX7_isMerged 198 [l0, l1, l2, l3, l4, l5, l6, l7, l8, l9, l10] st τ) ∧
  (∀ (l1 l2 l3 l4 l5 l6 l7 l8 l9 l10 : Option Value) (x : Nat) (st : List Value) (σ : dS), den mX7_isMerged 198 [some (.ref x), l1, l2, l3, l4, l5, l6, l7, l8, l9, l10] st σ = den mX7_isMerged 199 [some (.ref x), l1, l2, l3, l4, l5, l6, l7, l8, l9, l10] (.ref x :: st) σ) ∧
  (∀ (l0 l1 l2 l3 l4 l5 l6 l7 l8 l9 l10 : Option Value) (q : Nat) (st : List Value) (σ : dS), den mX7_isMerged 199 [l0, l1, l2, l3, l4, l5, l6, l7, l8, l9, l10] (.ref q :: st) σ = (dget σ q 6 0).bind fun v => den mX7_isMerged 202 [l0, l1, l2, l3, l4, l5, l6, l7, l8, l9, l10] (v :: st) σ) ∧
  (∀ (l0 l1 l2 l3 l4 l5 l6 l7 l8 l9 l10 : Option Value) (st : List Value) (σ : dS), den mX7_isMerged 202 [l0, l1, l2, l3, l4, l5, l6, l7, l8, l9, l10] st σ = den mX7_isMerged 203 [l0, l1, l2, l3, l4, l5, l6, l7, l8, l9, l10] (.int (nI 5) :: st) σ) ∧
  (∀ (l0 l1 l3 l4 l5 l6 l7 l8 l9 l10 : Option Value) (x : Int32) (st : List Value) (σ : dS), den mX7_isMerged 203 [l0, l1, some (.int x), l3, l4, l5, l6, l7, l8, l9, l10] st σ = den mX7_isMerged 204 [l0, l1, some (.int x), l3, l4, l5, l6, l7, l8, l9, l10] (.int x :: st) σ) ∧
  (∀ (l0 l1 l2 l3 l4 l5 l6 l7 l8 l9 l10 : Option Value) (x y : Int32) (st : List Value) (σ : dS), den mX7_isMerged 204 [l0, l1, l2, l3, l4, l5, l6, l7, l8, l9, l10] (.int y :: .int x :: st) σ = den mX7_isMerged 205 [l0, l1, l2, l3, l4, l5, l6, l7, l8, l9, l10] (.int (x * y) :: st) σ) ∧
  (∀ (l0 l1 l2 l3 l4 l5 l6 l7 l8 l9 l10 : Option Value) (st : List Value) (σ : dS), den mX7_isMerged 205 [l0, l1, l2, l3, l4, l5, l6, l7, l8, l9, l10] st σ = den mX7_isMerged 206 [l0, l1, l2, l3, l4, l5, l6, l7, l8, l9, l10] (.int (nI 4) :: st) σ) ∧
  (∀ (l0 l1 l2 l3 l4 l5 l6 l7 l8 l9 l10 : Option Value) (x y : Int32) (st : List Value) (σ : dS), den mX7_isMerged 206 [l0, l1, l2, l3, l4, l5, l6, l7, l8, l9, l10] (.int y :: .int x :: st) σ = den mX7_isMerged 207 [l0, l1, l2, l3, l4, l5, l6, l7, l8, l9, l10] (.int (x + y) :: st) σ) ∧
  (∀ (l0 l1 l2 l3 l4 l5 l6 l7 l8 l10 : Option Value) (x : Int32) (st : List Value) (σ : dS), den mX7_isMerged 207 [l0, l1, l2, l3, l4, l5, l6, l7, l8, some (.int x), l10] st σ = den mX7_isMerged 209 [l0, l1, l2, l3, l4, l5, l6, l7, l8, some (.int x), l10] (.int x :: st) σ) ∧
  (∀ (l0 l1 l2 l3 l4 l5 l6 l7 l8 l9 l10 : Option Value) (q : Nat) (i x : Int32) (st : List Value) (σ : dS), den mX7_isMerged 209 [l0, l1, l2, l3, l4, l5, l6, l7, l8, l9, l10] (.int x :: .int i :: .ref q :: st) σ = (dast σ q 0 i x).bind fun τ => den mX7_isMerged 210 [l0, l1, l2, l3, l4, l5, l6, l7, l8, l9, l10] st τ) ∧
  (∀ (l0 l1 l2 l3 l4 l5 l6 l7 l8 l9 l10 : Option Value) (st : List Value) (σ : dS), den mX7_isMerged 210 [l0, l1, l2, l3, l4, l5, l6, l7, l8, l9, l10] st σ = den mX7_isMerged 211 [l0, l1, l2, l3, l4, l5, l6, l7, l8, l9, l10] (.int (nI 1) :: st) σ) ∧
  (∀ (l0 l1 l2 l3 l4 l5 l6 l7 l8 l9 l10 : Option Value) (v : Int32) (σ : dS), den mX7_isMerged 211 [l0, l1, l2, l3, l4, l5, l6, l7, l8, l9, l10] [.int v] σ = if v = 0 ∨ v = 1 then some (some (.int v), σ) else none) :=
  ⟨fun l0 l1 l2 l3 l4 l5 l6 l7 l8 l9 l10 q st σ => dn_getfield (f := (6, 0, 771)) eX7_isMerged dX7_isMerged_187 (by decide +kernel),
  fun l0 l1 l2 l3 l4 l5 l6 l7 l8 l9 l10 st σ => dn_iconst eX7_isMerged dX7_isMerged_190 kc_iconst_5,
  fun l0 l1 l3 l4 l5 l6 l7 l8 l9 l10 x st σ => dn_iload_n eX7_isMerged dX7_isMerged_191 rfl,
  fun l0 l1 l2 l3 l4 l5 l6 l7 l8 l9 l10 x y st σ => dn_imul eX7_isMerged dX7_isMerged_192,
  fun l0 l1 l2 l3 l4 l5 l6 l7 l8 l9 l10 st σ => dn_iconst eX7_isMerged dX7_isMerged_193 kc_iconst_3,
  fun l0 l1 l2 l3 l4 l5 l6 l7 l8 l9 l10 x y st σ => dn_iadd eX7_isMerged dX7_isMerged_194,
  fun l0 l1 l2 l3 l4 l5 l6 l7 l9 l10 x st σ => dn_iload eX7_isMerged dX7_isMerged_195 rfl,
  fun l0 l1 l2 l3 l4 l5 l6 l7 l8 l9 l10 q i x st σ => dn_iastore eX7_isMerged dX7_isMerged_197,
  fun l1 l2 l3 l4 l5 l6 l7 l8 l9 l10 x st σ => dn_aload_n eX7_isMerged dX7_isMerged_198 rfl,
  fun l0 l1 l2 l3 l4 l5 l6 l7 l8 l9 l10 q st σ => dn_getfield (f := (6, 0, 771)) eX7_isMerged dX7_isMerged_199 (by decide +kernel),
  fun l0 l1 l2 l3 l4 l5 l6 l7 l8 l9 l10 st σ => dn_iconst eX7_isMerged dX7_isMerged_202 kc_iconst_5,
  fun l0 l1 l3 l4 l5 l6 l7 l8 l9 l10 x st σ => dn_iload_n eX7_isMerged dX7_isMerged_203 rfl,
  fun l0 l1 l2 l3 l4 l5 l6 l7 l8 l9 l10 x y st σ => dn_imul eX7_isMerged dX7_isMerged_204,
  fun l0 l1 l2 l3 l4 l5 l6 l7 l8 l9 l10 st σ => dn_iconst eX7_isMerged dX7_isMerged_205 kc_iconst_4,
  fun l0 l1 l2 l3 l4 l5 l6 l7 l8 l9 l10 x y st σ => dn_iadd eX7_isMerged dX7_isMerged_206,
  fun l0 l1 l2 l3 l4 l5 l6 l7 l8 l10 x st σ => dn_iload eX7_isMerged dX7_isMerged_207 rfl,
  fun l0 l1 l2 l3 l4 l5 l6 l7 l8 l9 l10 q i x st σ => dn_iastore eX7_isMerged dX7_isMerged_209,
  fun l0 l1 l2 l3 l4 l5 l6 l7 l8 l9 l10 st σ => dn_iconst eX7_isMerged dX7_isMerged_210 kc_iconst_1,
  fun l0 l1 l2 l3 l4 l5 l6 l7 l8 l9 l10 v σ => dn_zreturn eX7_isMerged dX7_isMerged_211 rfl⟩
theorem CX7_mergesOnce (a0 : Nat) (σ : dS) : dcall mX7_mergesOnce [.ref a0] σ = den mX7_mergesOnce 0 [some (.ref a0), none, none, none] [] σ := dcall_den (by decide) rfl
theorem rX7_mergesOnce_3 (l0 l1 l2 l3 : Option Value) (q : Nat) (σ : dS) : den mX7_mergesOnce 3 [l0, l1, l2, l3] [.ref q] σ = if disO σ q 6 = true then ((dcall mX7_ifs [.ref q] σ).bind fun r => den mX7_mergesOnce 6 [l0, l1, l2, l3] (r.1.toList ++ []) r.2) else none := by
  by_cases h : disO σ q 6 = true
  · rw [if_pos h]; exact dn_callV (e := (0, 122, 943)) (as := []) (rest := []) eX7_mergesOnce dX7_mergesOnce_3 (by decide +kernel) rfl (by decide +kernel) rfl (dcat_le rfl) (dlen_le rfl) rfl h
  · rw [if_neg h]; exact den_noV (e := (0, 122, 943)) (as := []) (rest := []) eX7_mergesOnce dX7_mergesOnce_3 (by decide +kernel) rfl rfl rfl h
theorem hX7_mergesOnce_9 (l0 l1 l2 : Option Value) (x : Int32) (st : List Value) (σ : dS) : den mX7_mergesOnce 9 [l0, l1, l2, some (.int x)] st σ = den mX7_mergesOnce 10 [l0, l1, l2, some (.int x)] (.int x :: st) σ := dn_iload_n eX7_mergesOnce dX7_mergesOnce_9 rfl
theorem rX7_mergesOnce_20 (l0 l1 l2 l3 : Option Value) (a0 : Int32) (q : Nat) (σ : dS) : den mX7_mergesOnce 20 [l0, l1, l2, l3] [.int a0, .ref q] σ = if disO σ q 6 = true then ((dcall mX7_isMerged [.ref q, .int a0] σ).bind fun r => den mX7_mergesOnce 23 [l0, l1, l2, l3] (r.1.toList ++ []) r.2) else none := by
  by_cases h : disO σ q 6 = true
  · rw [if_pos h]; exact dn_callV (e := (0, 172, 1156)) (as := [.int a0]) (rest := []) eX7_mergesOnce dX7_mergesOnce_20 (by decide +kernel) rfl (by decide +kernel) rfl (dcat_le rfl) (dlen_le rfl) rfl h
  · rw [if_neg h]; exact den_noV (e := (0, 172, 1156)) (as := [.int a0]) (rest := []) eX7_mergesOnce dX7_mergesOnce_20 (by decide +kernel) rfl rfl rfl h
set_option maxRecDepth 20000 in
theorem SX7_mergesOnce : (∀ (l0 l1 l2 l3 : Option Value) (st : List Value) (σ : dS), den mX7_mergesOnce 0 [l0, l1, l2, l3] st σ = den mX7_mergesOnce 1 [l0, l1, l2, l3] (.int (nI 0) :: st) σ) ∧
  (∀ (l1 l2 l3 : Option Value) (x : Int32) (y : Nat) (st : List Value) (σ : dS), den mX7_mergesOnce 1 [some (.ref y), l1, l2, l3] (.int x :: st) σ = den mX7_mergesOnce 2 [some (.ref y), some (.int x), l2, l3] st σ) ∧
  (∀ (l1 l2 l3 : Option Value) (x : Nat) (st : List Value) (σ : dS), den mX7_mergesOnce 2 [some (.ref x), l1, l2, l3] st σ = den mX7_mergesOnce 3 [some (.ref x), l1, l2, l3] (.ref x :: st) σ) ∧
  (∀ (l0 l1 l2 l3 : Option Value) (q : Nat) (σ : dS), den mX7_mergesOnce 3 [l0, l1, l2, l3] [.ref q] σ = if disO σ q 6 = true then ((dcall mX7_ifs [.ref q] σ).bind fun r => den mX7_mergesOnce 6 [l0, l1, l2, l3] (r.1.toList ++ []) r.2) else none) ∧
  (∀ (l0 l2 l3 : Option Value) (x : Int32) (y : Int32) (st : List Value) (σ : dS), den mX7_mergesOnce 6 [l0, some (.int y), l2, l3] (.int x :: st) σ = den mX7_mergesOnce 7 [l0, some (.int y), some (.int x), l3] st σ) ∧
  (∀ (l0 l1 l2 l3 : Option Value) (st : List Value) (σ : dS), den mX7_mergesOnce 7 [l0, l1, l2, l3] st σ = den mX7_mergesOnce 8 [l0, l1, l2, l3] (.int (nI 0) :: st) σ) ∧
  (∀ (l0 l1 l3 : Option Value) (x : Int32) (y : Int32) (st : List Value) (σ : dS), den mX7_mergesOnce 8 [l0, l1, some (.int y), l3] (.int x :: st) σ = den mX7_mergesOnce 9 [l0, l1, some (.int y), some (.int x)] st σ) ∧
  (∀ (l0 l1 l3 : Option Value) (x : Int32) (st : List Value) (σ : dS), den mX7_mergesOnce 10 [l0, l1, some (.int x), l3] st σ = den mX7_mergesOnce 11 [l0, l1, some (.int x), l3] (.int x :: st) σ) ∧
  (∀ (l0 l1 l2 l3 : Option Value) (x y : Int32) (st : List Value) (σ : dS), den mX7_mergesOnce 11 [l0, l1, l2, l3] (.int y :: .int x :: st) σ = if x < y then den mX7_mergesOnce 14 [l0, l1, l2, l3] st σ else den mX7_mergesOnce 30 [l0, l1, l2, l3] st σ) ∧
  (∀ (l0 l2 l3 : Option Value) (x : Int32) (st : List Value) (σ : dS), den mX7_mergesOnce 14 [l0, some (.int x), l2, l3] st σ = den mX7_mergesOnce 15 [l0, some (.int x), l2, l3] (.int x :: st) σ) ∧
  (∀ (l0 l1 l2 l3 : Option Value) (x : Int32) (st : List Value) (σ : dS), den mX7_mergesOnce 15 [l0, l1, l2, l3] (.int x :: st) σ = if x = 0 then den mX7_mergesOnce 18 [l0, l1, l2, l3] st σ else den mX7_mergesOnce 30 [l0, l1, l2, l3] st σ) ∧
  (∀ (l1 l2 l3 : Option Value) (x : Nat) (st : List Value) (σ : dS), den mX7_mergesOnce 18 [some (.ref x), l1, l2, l3] st σ = den mX7_mergesOnce 19 [some (.ref x), l1, l2, l3] (.ref x :: st) σ) ∧
  (∀ (l0 l1 l2 : Option Value) (x : Int32) (st : List Value) (σ : dS), den mX7_mergesOnce 19 [l0, l1, l2, some (.int x)] st σ = den mX7_mergesOnce 20 [l0, l1, l2, some (.int x)] (.int x :: st) σ) ∧
  (∀ (l0 l1 l2 l3 : Option Value) (a0 : Int32) (q : Nat) (σ : dS), den mX7_mergesOnce 20 [l0, l1, l2, l3] [.int a0, .ref q] σ = if disO σ q 6 = true then ((dcall mX7_isMerged [.ref q, .int a0] σ).bind fun r => den mX7_mergesOnce 23 [l0, l1, l2, l3] (r.1.toList ++ []) r.2) else none) ∧
  (∀ (l1 l2 l3 : Option Value) (x : Int32) (y : Nat) (st : List Value) (σ : dS), den mX7_mergesOnce 23 [some (.ref y), l1, l2, l3] (.int x :: st) σ = den mX7_mergesOnce 24 [some (.ref y), some (.int x), l2, l3] st σ) ∧
  (∀ (l0 l1 : Option Value) (x : Int32) (y : Int32) (st : List Value) (σ : dS), den mX7_mergesOnce 24 [l0, l1, some (.int y), some (.int x)] st σ = den mX7_mergesOnce 27 [l0, l1, some (.int y), some (.int (x + nI 1))] st σ) ∧
  (∀ (l0 l1 l2 l3 : Option Value) (st : List Value) (σ : dS), den mX7_mergesOnce 27 [l0, l1, l2, l3] st σ = den mX7_mergesOnce 9 [l0, l1, l2, l3] st σ) ∧
  (∀ (l0 l2 l3 : Option Value) (x : Int32) (st : List Value) (σ : dS), den mX7_mergesOnce 30 [l0, some (.int x), l2, l3] st σ = den mX7_mergesOnce 31 [l0, some (.int x), l2, l3] (.int x :: st) σ) ∧
  (∀ (l0 l1 l2 l3 : Option Value) (v : Int32) (σ : dS), den mX7_mergesOnce 31 [l0, l1, l2, l3] [.int v] σ = if v = 0 ∨ v = 1 then some (some (.int v), σ) else none) :=
  ⟨fun l0 l1 l2 l3 st σ => dn_iconst eX7_mergesOnce dX7_mergesOnce_0 kc_iconst_0,
  fun l1 l2 l3 x y st σ => dn_istore_n eX7_mergesOnce dX7_mergesOnce_1 rfl,
  fun l1 l2 l3 x st σ => dn_aload_n eX7_mergesOnce dX7_mergesOnce_2 rfl,
  fun l0 l1 l2 l3 q σ => rX7_mergesOnce_3 l0 l1 l2 l3 q σ,
  fun l0 l2 l3 x y st σ => dn_istore_n eX7_mergesOnce dX7_mergesOnce_6 rfl,
  fun l0 l1 l2 l3 st σ => dn_iconst eX7_mergesOnce dX7_mergesOnce_7 kc_iconst_0,
  fun l0 l1 l3 x y st σ => dn_istore_n eX7_mergesOnce dX7_mergesOnce_8 rfl,
  fun l0 l1 l3 x st σ => dn_iload_n eX7_mergesOnce dX7_mergesOnce_10 rfl,
  fun l0 l1 l2 l3 x y st σ => dn_icmp_ge eX7_mergesOnce dX7_mergesOnce_11 (by decide),
  fun l0 l2 l3 x st σ => dn_iload_n eX7_mergesOnce dX7_mergesOnce_14 rfl,
  fun l0 l1 l2 l3 x st σ => dn_if_ne eX7_mergesOnce dX7_mergesOnce_15 (by decide),
  fun l1 l2 l3 x st σ => dn_aload_n eX7_mergesOnce dX7_mergesOnce_18 rfl,
  fun l0 l1 l2 x st σ => dn_iload_n eX7_mergesOnce dX7_mergesOnce_19 rfl,
  fun l0 l1 l2 l3 a0 q σ => rX7_mergesOnce_20 l0 l1 l2 l3 a0 q σ,
  fun l1 l2 l3 x y st σ => dn_istore_n eX7_mergesOnce dX7_mergesOnce_23 rfl,
  fun l0 l1 x y st σ => dn_iinc (v := nI 1) eX7_mergesOnce dX7_mergesOnce_24 rfl kc_iconst_1 rfl,
  fun l0 l1 l2 l3 st σ => dn_goto eX7_mergesOnce dX7_mergesOnce_27 (by decide),
  fun l0 l2 l3 x st σ => dn_iload_n eX7_mergesOnce dX7_mergesOnce_30 rfl,
  fun l0 l1 l2 l3 v σ => dn_zreturn eX7_mergesOnce dX7_mergesOnce_31 rfl⟩
theorem CX7_merge (a0 : Nat) (σ : dS) : dcall mX7_merge [.ref a0] σ = den mX7_merge 0 [some (.ref a0), none] [] σ := dcall_den (by decide) rfl
theorem hX7_merge_2 (l1 : Option Value) (x : Nat) (st : List Value) (σ : dS) : den mX7_merge 2 [some (.ref x), l1] st σ = den mX7_merge 3 [some (.ref x), l1] (.ref x :: st) σ := dn_aload_n eX7_merge dX7_merge_2 rfl
theorem rX7_merge_3 (l0 l1 : Option Value) (q : Nat) (σ : dS) : den mX7_merge 3 [l0, l1] [.ref q] σ = if disO σ q 6 = true then ((dcall mX7_mergesOnce [.ref q] σ).bind fun r => den mX7_merge 6 [l0, l1] (r.1.toList ++ []) r.2) else none := by
  by_cases h : disO σ q 6 = true
  · rw [if_pos h]; exact dn_callV (e := (0, 173, 1152)) (as := []) (rest := []) eX7_merge dX7_merge_3 (by decide +kernel) rfl (by decide +kernel) rfl (dcat_le rfl) (dlen_le rfl) rfl h
  · rw [if_neg h]; exact den_noV (e := (0, 173, 1152)) (as := []) (rest := []) eX7_merge dX7_merge_3 (by decide +kernel) rfl rfl rfl h
set_option maxRecDepth 20000 in
theorem SX7_merge : (∀ (l0 l1 : Option Value) (st : List Value) (σ : dS), den mX7_merge 0 [l0, l1] st σ = den mX7_merge 1 [l0, l1] (.int (nI 0) :: st) σ) ∧
  (∀ (l1 : Option Value) (x : Int32) (y : Nat) (st : List Value) (σ : dS), den mX7_merge 1 [some (.ref y), l1] (.int x :: st) σ = den mX7_merge 2 [some (.ref y), some (.int x)] st σ) ∧
  (∀ (l0 l1 : Option Value) (q : Nat) (σ : dS), den mX7_merge 3 [l0, l1] [.ref q] σ = if disO σ q 6 = true then ((dcall mX7_mergesOnce [.ref q] σ).bind fun r => den mX7_merge 6 [l0, l1] (r.1.toList ++ []) r.2) else none) ∧
  (∀ (l0 l1 : Option Value) (x : Int32) (st : List Value) (σ : dS), den mX7_merge 6 [l0, l1] (.int x :: st) σ = if x = 0 then den mX7_merge 15 [l0, l1] st σ else den mX7_merge 9 [l0, l1] st σ) ∧
  (∀ (x : Int32) (y : Nat) (st : List Value) (σ : dS), den mX7_merge 9 [some (.ref y), some (.int x)] st σ = den mX7_merge 12 [some (.ref y), some (.int (x + nI 1))] st σ) ∧
  (∀ (l0 l1 : Option Value) (st : List Value) (σ : dS), den mX7_merge 12 [l0, l1] st σ = den mX7_merge 2 [l0, l1] st σ) ∧
  (∀ (l0 : Option Value) (x : Int32) (st : List Value) (σ : dS), den mX7_merge 15 [l0, some (.int x)] st σ = den mX7_merge 16 [l0, some (.int x)] (.int x :: st) σ) ∧
  (∀ (l0 l1 : Option Value) (v : Int32) (σ : dS), den mX7_merge 16 [l0, l1] [.int v] σ = some (some (.int v), σ)) :=
  ⟨fun l0 l1 st σ => dn_iconst eX7_merge dX7_merge_0 kc_iconst_0,
  fun l1 x y st σ => dn_istore_n eX7_merge dX7_merge_1 rfl,
  fun l0 l1 q σ => rX7_merge_3 l0 l1 q σ,
  fun l0 l1 x st σ => dn_if_eq eX7_merge dX7_merge_6 (by decide),
  fun x y st σ => dn_iinc (v := nI 1) eX7_merge dX7_merge_9 rfl kc_iconst_1 rfl,
  fun l0 l1 st σ => dn_goto eX7_merge dX7_merge_12 (by decide),
  fun l0 x st σ => dn_iload_n eX7_merge dX7_merge_15 rfl,
  fun l0 l1 v σ => dn_ireturn eX7_merge dX7_merge_16 rfl⟩
theorem CX7_set (a0 : Nat) (a1 : Int32) (a2 : Int32) (a3 : Int32) (σ : dS) : dcall mX7_set [.ref a0, .int a1, .int a2, .int a3] σ = den mX7_set 0 [some (.ref a0), some (.int a1), some (.int a2), some (.int a3), none, none, none] [] σ := dcall_den (by decide) rfl
theorem rX7_set_2 (l0 l1 l2 l3 l4 l5 l6 : Option Value) (a0 : Int32) (q : Nat) (σ : dS) : den mX7_set 2 [l0, l1, l2, l3, l4, l5, l6] [.int a0, .ref q] σ = if disO σ q 6 = true then ((dcall mX7_isCode [.ref q, .int a0] σ).bind fun r => den mX7_set 5 [l0, l1, l2, l3, l4, l5, l6] (r.1.toList ++ []) r.2) else none := by
  by_cases h : disO σ q 6 = true
  · rw [if_pos h]; exact dn_callV (e := (0, 121, 1008)) (as := [.int a0]) (rest := []) eX7_set dX7_set_2 (by decide +kernel) rfl (by decide +kernel) rfl (dcat_le rfl) (dlen_le rfl) rfl h
  · rw [if_neg h]; exact den_noV (e := (0, 121, 1008)) (as := [.int a0]) (rest := []) eX7_set dX7_set_2 (by decide +kernel) rfl rfl rfl h
theorem rX7_set_25 (l0 l1 l2 l3 l4 l5 l6 : Option Value) (a0 : Int32) (a1 : Int32) (q : Nat) (σ : dS) : den mX7_set 25 [l0, l1, l2, l3, l4, l5, l6] [.int a1, .int a0, .ref q] σ = if disO σ q 6 = true then ((dcall mX7_of [.ref q, .int a0, .int a1] σ).bind fun r => den mX7_set 28 [l0, l1, l2, l3, l4, l5, l6] (r.1.toList ++ []) r.2) else none := by
  by_cases h : disO σ q 6 = true
  · rw [if_pos h]; exact dn_callV (e := (0, 120, 947)) (as := [.int a0, .int a1]) (rest := []) eX7_set dX7_set_25 (by decide +kernel) rfl (by decide +kernel) rfl (dcat_le rfl) (dlen_le rfl) rfl h
  · rw [if_neg h]; exact den_noV (e := (0, 120, 947)) (as := [.int a0, .int a1]) (rest := []) eX7_set dX7_set_25 (by decide +kernel) rfl rfl rfl h
theorem rX7_set_117 (l0 l1 l2 l3 l4 l5 l6 : Option Value) (a0 : Int32) (a1 : Int32) (q : Nat) (σ : dS) : den mX7_set 117 [l0, l1, l2, l3, l4, l5, l6] [.int a1, .int a0, .ref q] σ = if disO σ q 6 = true then ((dcall mX7_becomes [.ref q, .int a0, .int a1] σ).bind fun r => den mX7_set 120 [l0, l1, l2, l3, l4, l5, l6] (r.1.toList ++ []) r.2) else none := by
  by_cases h : disO σ q 6 = true
  · rw [if_pos h]; exact dn_callV (e := (0, 157, 1099)) (as := [.int a0, .int a1]) (rest := []) eX7_set dX7_set_117 (by decide +kernel) rfl (by decide +kernel) rfl (dcat_le rfl) (dlen_le rfl) rfl h
  · rw [if_neg h]; exact den_noV (e := (0, 157, 1099)) (as := [.int a0, .int a1]) (rest := []) eX7_set dX7_set_117 (by decide +kernel) rfl rfl rfl h
set_option maxRecDepth 20000 in
theorem SX7_set_0 : (∀ (l1 l2 l3 l4 l5 l6 : Option Value) (x : Nat) (st : List Value) (σ : dS), den mX7_set 0 [some (.ref x), l1, l2, l3, l4, l5, l6] st σ = den mX7_set 1 [some (.ref x), l1, l2, l3, l4, l5, l6] (.ref x :: st) σ) ∧
  (∀ (l0 l2 l3 l4 l5 l6 : Option Value) (x : Int32) (st : List Value) (σ : dS), den mX7_set 1 [l0, some (.int x), l2, l3, l4, l5, l6] st σ = den mX7_set 2 [l0, some (.int x), l2, l3, l4, l5, l6] (.int x :: st) σ) ∧
  (∀ (l0 l1 l2 l3 l4 l5 l6 : Option Value) (a0 : Int32) (q : Nat) (σ : dS), den mX7_set 2 [l0, l1, l2, l3, l4, l5, l6] [.int a0, .ref q] σ = if disO σ q 6 = true then ((dcall mX7_isCode [.ref q, .int a0] σ).bind fun r => den mX7_set 5 [l0, l1, l2, l3, l4, l5, l6] (r.1.toList ++ []) r.2) else none) ∧
  (∀ (l0 l1 l2 l3 l4 l5 l6 : Option Value) (x : Int32) (st : List Value) (σ : dS), den mX7_set 5 [l0, l1, l2, l3, l4, l5, l6] (.int x :: st) σ = if x = 0 then den mX7_set 20 [l0, l1, l2, l3, l4, l5, l6] st σ else den mX7_set 8 [l0, l1, l2, l3, l4, l5, l6] st σ) ∧
  (∀ (l0 l1 l3 l4 l5 l6 : Option Value) (x : Int32) (st : List Value) (σ : dS), den mX7_set 8 [l0, l1, some (.int x), l3, l4, l5, l6] st σ = den mX7_set 9 [l0, l1, some (.int x), l3, l4, l5, l6] (.int x :: st) σ) ∧
  (∀ (l0 l1 l2 l3 l4 l5 l6 : Option Value) (x : Int32) (st : List Value) (σ : dS), den mX7_set 9 [l0, l1, l2, l3, l4, l5, l6] (.int x :: st) σ = den mX7_set 10 [l0, l1, l2, l3, l4, l5, l6] (.long x.toInt64 :: st) σ) ∧
  (∀ (l0 l1 l2 l3 l4 l5 l6 : Option Value) (st : List Value) (σ : dS), den mX7_set 10 [l0, l1, l2, l3, l4, l5, l6] st σ = den mX7_set 11 [l0, l1, l2, l3, l4, l5, l6] (.long (lN 1) :: st) σ) ∧
  (∀ (l0 l1 l2 l3 l4 l5 l6 : Option Value) (st : List Value) (σ : dS), den mX7_set 11 [l0, l1, l2, l3, l4, l5, l6] st σ = den mX7_set 14 [l0, l1, l2, l3, l4, l5, l6] (.long (lN 3) :: st) σ) ∧
  (∀ (l0 l1 l2 l3 l4 l5 l6 : Option Value) (a0 : Int64) (a1 : Int64) (a2 : Int64) (σ : dS), den mX7_set 14 [l0, l1, l2, l3, l4, l5, l6] [.long a2, .long a1, .long a0] σ = (dcall mX7_in [.long a0, .long a1, .long a2] σ).bind fun r => den mX7_set 17 [l0, l1, l2, l3, l4, l5, l6] (r.1.toList ++ []) r.2) ∧
  (∀ (l0 l1 l2 l3 l4 l5 l6 : Option Value) (x : Int32) (st : List Value) (σ : dS), den mX7_set 17 [l0, l1, l2, l3, l4, l5, l6] (.int x :: st) σ = if x = 0 then den mX7_set 20 [l0, l1, l2, l3, l4, l5, l6] st σ else den mX7_set 22 [l0, l1, l2, l3, l4, l5, l6] st σ) ∧
  (∀ (l0 l1 l2 l3 l4 l5 l6 : Option Value) (st : List Value) (σ : dS), den mX7_set 20 [l0, l1, l2, l3, l4, l5, l6] st σ = den mX7_set 21 [l0, l1, l2, l3, l4, l5, l6] (.int ((-1)) :: st) σ) ∧
  (∀ (l0 l1 l2 l3 l4 l5 l6 : Option Value) (v : Int32) (σ : dS), den mX7_set 21 [l0, l1, l2, l3, l4, l5, l6] [.int v] σ = some (some (.int v), σ)) ∧
  (∀ (l1 l2 l3 l4 l5 l6 : Option Value) (x : Nat) (st : List Value) (σ : dS), den mX7_set 22 [some (.ref x), l1, l2, l3, l4, l5, l6] st σ = den mX7_set 23 [some (.ref x), l1, l2, l3, l4, l5, l6] (.ref x :: st) σ) ∧
  (∀ (l0 l2 l3 l4 l5 l6 : Option Value) (x : Int32) (st : List Value) (σ : dS), den mX7_set 23 [l0, some (.int x), l2, l3, l4, l5, l6] st σ = den mX7_set 24 [l0, some (.int x), l2, l3, l4, l5, l6] (.int x :: st) σ) ∧
  (∀ (l0 l1 l2 l3 l4 l5 l6 : Option Value) (st : List Value) (σ : dS), den mX7_set 24 [l0, l1, l2, l3, l4, l5, l6] st σ = den mX7_set 25 [l0, l1, l2, l3, l4, l5, l6] (.int (nI 0) :: st) σ) ∧
  (∀ (l0 l1 l2 l3 l4 l5 l6 : Option Value) (a0 : Int32) (a1 : Int32) (q : Nat) (σ : dS), den mX7_set 25 [l0, l1, l2, l3, l4, l5, l6] [.int a1, .int a0, .ref q] σ = if disO σ q 6 = true then ((dcall mX7_of [.ref q, .int a0, .int a1] σ).bind fun r => den mX7_set 28 [l0, l1, l2, l3, l4, l5, l6] (r.1.toList ++ []) r.2) else none) ∧
  (∀ (l0 l1 l2 l4 l5 l6 : Option Value) (x : Int32) (y : Int32) (st : List Value) (σ : dS), den mX7_set 28 [l0, l1, l2, some (.int y), l4, l5, l6] (.int x :: st) σ = den mX7_set 30 [l0, l1, l2, some (.int y), some (.int x), l5, l6] st σ) ∧
  (∀ (l0 l1 l2 l3 l5 l6 : Option Value) (x : Int32) (st : List Value) (σ : dS), den mX7_set 30 [l0, l1, l2, l3, some (.int x), l5, l6] st σ = den mX7_set 32 [l0, l1, l2, l3, some (.int x), l5, l6] (.int x :: st) σ) ∧
  (∀ (l0 l1 l2 l3 l4 l5 l6 : Option Value) (x : Int32) (st : List Value) (σ : dS), den mX7_set 32 [l0, l1, l2, l3, l4, l5, l6] (.int x :: st) σ = if x = 0 then den mX7_set 41 [l0, l1, l2, l3, l4, l5, l6] st σ else den mX7_set 35 [l0, l1, l2, l3, l4, l5, l6] st σ) ∧
  (∀ (l0 l1 l2 l3 l5 l6 : Option Value) (x : Int32) (st : List Value) (σ : dS), den mX7_set 35 [l0, l1, l2, l3, some (.int x), l5, l6] st σ = den mX7_set 37 [l0, l1, l2, l3, some (.int x), l5, l6] (.int x :: st) σ) ∧
  (∀ (l0 l1 l2 l3 l4 l5 l6 : Option Value) (st : List Value) (σ : dS), den mX7_set 37 [l0, l1, l2, l3, l4, l5, l6] st σ = den mX7_set 38 [l0, l1, l2, l3, l4, l5, l6] (.int (nI 5) :: st) σ) ∧
  (∀ (l0 l1 l2 l3 l4 l5 l6 : Option Value) (x y : Int32) (st : List Value) (σ : dS), den mX7_set 38 [l0, l1, l2, l3, l4, l5, l6] (.int y :: .int x :: st) σ = if x = y then den mX7_set 41 [l0, l1, l2, l3, l4, l5, l6] st σ else den mX7_set 45 [l0, l1, l2, l3, l4, l5, l6] st σ) ∧
  (∀ (l0 l1 l2 l3 l4 l5 l6 : Option Value) (st : List Value) (σ : dS), den mX7_set 41 [l0, l1, l2, l3, l4, l5, l6] st σ = den mX7_set 42 [l0, l1, l2, l3, l4, l5, l6] (.int (nI 1) :: st) σ) ∧
  (∀ (l0 l1 l2 l3 l4 l5 l6 : Option Value) (st : List Value) (σ : dS), den mX7_set 42 [l0, l1, l2, l3, l4, l5, l6] st σ = den mX7_set 46 [l0, l1, l2, l3, l4, l5, l6] st σ) ∧
  (∀ (l0 l1 l2 l3 l4 l5 l6 : Option Value) (st : List Value) (σ : dS), den mX7_set 45 [l0, l1, l2, l3, l4, l5, l6] st σ = den mX7_set 46 [l0, l1, l2, l3, l4, l5, l6] (.int (nI 0) :: st) σ) ∧
  (∀ (l0 l1 l2 l3 l5 l6 : Option Value) (x : Int32) (y : Int32) (st : List Value) (σ : dS), den mX7_set 46 [l0, l1, l2, l3, some (.int y), l5, l6] (.int x :: st) σ = den mX7_set 48 [l0, l1, l2, l3, some (.int y), some (.int x), l6] st σ) ∧
  (∀ (l0 l1 l3 l4 l5 l6 : Option Value) (x : Int32) (st : List Value) (σ : dS), den mX7_set 48 [l0, l1, some (.int x), l3, l4, l5, l6] st σ = den mX7_set 49 [l0, l1, some (.int x), l3, l4, l5, l6] (.int x :: st) σ) ∧
  (∀ (l0 l1 l2 l3 l4 l5 l6 : Option Value) (st : List Value) (σ : dS), den mX7_set 49 [l0, l1, l2, l3, l4, l5, l6] st σ = den mX7_set 50 [l0, l1, l2, l3, l4, l5, l6] (.int (nI 2) :: st) σ) ∧
  (∀ (l0 l1 l2 l3 l4 l5 l6 : Option Value) (x y : Int32) (st : List Value) (σ : dS), den mX7_set 50 [l0, l1, l2, l3, l4, l5, l6] (.int y :: .int x :: st) σ = if x = y then den mX7_set 53 [l0, l1, l2, l3, l4, l5, l6] st σ else den mX7_set 63 [l0, l1, l2, l3, l4, l5, l6] st σ) ∧
  (∀ (l0 l1 l2 l3 l5 l6 : Option Value) (x : Int32) (st : List Value) (σ : dS), den mX7_set 53 [l0, l1, l2, l3, some (.int x), l5, l6] st σ = den mX7_set 55 [l0, l1, l2, l3, some (.int x), l5, l6] (.int x :: st) σ) ∧
  (∀ (l0 l1 l2 l3 l4 l5 l6 : Option Value) (x : Int32) (st : List Value) (σ : dS), den mX7_set 55 [l0, l1, l2, l3, l4, l5, l6] (.int x :: st) σ = if x = 0 then den mX7_set 58 [l0, l1, l2, l3, l4, l5, l6] st σ else den mX7_set 63 [l0, l1, l2, l3, l4, l5, l6] st σ) ∧
  (∀ (l0 l1 l2 l3 l4 l5 l6 : Option Value) (st : List Value) (σ : dS), den mX7_set 58 [l0, l1, l2, l3, l4, l5, l6] st σ = den mX7_set 60 [l0, l1, l2, l3, l4, l5, l6] (.int (nI 99) :: st) σ) ∧
  (∀ (l0 l1 l2 l3 l4 l5 l6 : Option Value) (st : List Value) (σ : dS), den mX7_set 60 [l0, l1, l2, l3, l4, l5, l6] st σ = den mX7_set 96 [l0, l1, l2, l3, l4, l5, l6] st σ) ∧
  (∀ (l0 l1 l3 l4 l5 l6 : Option Value) (x : Int32) (st : List Value) (σ : dS), den mX7_set 63 [l0, l1, some (.int x), l3, l4, l5, l6] st σ = den mX7_set 64 [l0, l1, some (.int x), l3, l4, l5, l6] (.int x :: st) σ) ∧
  (∀ (l0 l1 l2 l3 l4 l5 l6 : Option Value) (st : List Value) (σ : dS), den mX7_set 64 [l0, l1, l2, l3, l4, l5, l6] st σ = den mX7_set 65 [l0, l1, l2, l3, l4, l5, l6] (.int (nI 2) :: st) σ) ∧
  (∀ (l0 l1 l2 l3 l4 l5 l6 : Option Value) (x y : Int32) (st : List Value) (σ : dS), den mX7_set 65 [l0, l1, l2, l3, l4, l5, l6] (.int y :: .int x :: st) σ = if x = y then den mX7_set 68 [l0, l1, l2, l3, l4, l5, l6] st σ else den mX7_set 79 [l0, l1, l2, l3, l4, l5, l6] st σ) ∧
  (∀ (l0 l1 l2 l3 l5 l6 : Option Value) (x : Int32) (st : List Value) (σ : dS), den mX7_set 68 [l0, l1, l2, l3, some (.int x), l5, l6] st σ = den mX7_set 70 [l0, l1, l2, l3, some (.int x), l5, l6] (.int x :: st) σ) ∧
  (∀ (l0 l1 l2 l3 l4 l5 l6 : Option Value) (st : List Value) (σ : dS), den mX7_set 70 [l0, l1, l2, l3, l4, l5, l6] st σ = den mX7_set 71 [l0, l1, l2, l3, l4, l5, l6] (.int (nI 5) :: st) σ) ∧
  (∀ (l0 l1 l2 l3 l4 l5 l6 : Option Value) (x y : Int32) (st : List Value) (σ : dS), den mX7_set 71 [l0, l1, l2, l3, l4, l5, l6] (.int y :: .int x :: st) σ = if x = y then den mX7_set 74 [l0, l1, l2, l3, l4, l5, l6] st σ else den mX7_set 79 [l0, l1, l2, l3, l4, l5, l6] st σ) ∧
  (∀ (l0 l1 l2 l3 l4 l5 l6 : Option Value) (st : List Value) (σ : dS), den mX7_set 74 [l0, l1, l2, l3, l4, l5, l6] st σ = den mX7_set 76 [l0, l1, l2, l3, l4, l5, l6] (.int (nI 10) :: st) σ) :=
  ⟨fun l1 l2 l3 l4 l5 l6 x st σ => dn_aload_n eX7_set dX7_set_0 rfl,
  fun l0 l2 l3 l4 l5 l6 x st σ => dn_iload_n eX7_set dX7_set_1 rfl,
  fun l0 l1 l2 l3 l4 l5 l6 a0 q σ => rX7_set_2 l0 l1 l2 l3 l4 l5 l6 a0 q σ,
  fun l0 l1 l2 l3 l4 l5 l6 x st σ => dn_if_eq eX7_set dX7_set_5 (by decide),
  fun l0 l1 l3 l4 l5 l6 x st σ => dn_iload_n eX7_set dX7_set_8 rfl,
  fun l0 l1 l2 l3 l4 l5 l6 x st σ => dn_i2l eX7_set dX7_set_9,
  fun l0 l1 l2 l3 l4 l5 l6 st σ => dn_lconst eX7_set dX7_set_10 kc_lconst_1,
  fun l0 l1 l2 l3 l4 l5 l6 st σ => dn_ldc2_w (w := 3) (p := 1172) eX7_set dX7_set_11 (by decide +kernel) (by decide +kernel),
  fun l0 l1 l2 l3 l4 l5 l6 a0 a1 a2 σ => dn_callS (e := (1, 102, 879)) (as := [.long a0, .long a1, .long a2]) (rest := []) eX7_set dX7_set_14 (by decide +kernel) (Or.inl rfl) (by decide +kernel) rfl (dcat_le rfl) (dlen_le rfl) rfl,
  fun l0 l1 l2 l3 l4 l5 l6 x st σ => dn_if_ne eX7_set dX7_set_17 (by decide),
  fun l0 l1 l2 l3 l4 l5 l6 st σ => dn_iconst eX7_set dX7_set_20 kc_iconst_m1,
  fun l0 l1 l2 l3 l4 l5 l6 v σ => dn_ireturn eX7_set dX7_set_21 rfl,
  fun l1 l2 l3 l4 l5 l6 x st σ => dn_aload_n eX7_set dX7_set_22 rfl,
  fun l0 l2 l3 l4 l5 l6 x st σ => dn_iload_n eX7_set dX7_set_23 rfl,
  fun l0 l1 l2 l3 l4 l5 l6 st σ => dn_iconst eX7_set dX7_set_24 kc_iconst_0,
  fun l0 l1 l2 l3 l4 l5 l6 a0 a1 q σ => rX7_set_25 l0 l1 l2 l3 l4 l5 l6 a0 a1 q σ,
  fun l0 l1 l2 l4 l5 l6 x y st σ => dn_istore eX7_set dX7_set_28 rfl,
  fun l0 l1 l2 l3 l5 l6 x st σ => dn_iload eX7_set dX7_set_30 rfl,
  fun l0 l1 l2 l3 l4 l5 l6 x st σ => dn_if_eq eX7_set dX7_set_32 (by decide),
  fun l0 l1 l2 l3 l5 l6 x st σ => dn_iload eX7_set dX7_set_35 rfl,
  fun l0 l1 l2 l3 l4 l5 l6 st σ => dn_iconst eX7_set dX7_set_37 kc_iconst_5,
  fun l0 l1 l2 l3 l4 l5 l6 x y st σ => dn_icmp_ne eX7_set dX7_set_38 (by decide),
  fun l0 l1 l2 l3 l4 l5 l6 st σ => dn_iconst eX7_set dX7_set_41 kc_iconst_1,
  fun l0 l1 l2 l3 l4 l5 l6 st σ => dn_goto eX7_set dX7_set_42 (by decide),
  fun l0 l1 l2 l3 l4 l5 l6 st σ => dn_iconst eX7_set dX7_set_45 kc_iconst_0,
  fun l0 l1 l2 l3 l5 l6 x y st σ => dn_istore eX7_set dX7_set_46 rfl,
  fun l0 l1 l3 l4 l5 l6 x st σ => dn_iload_n eX7_set dX7_set_48 rfl,
  fun l0 l1 l2 l3 l4 l5 l6 st σ => dn_iconst eX7_set dX7_set_49 kc_iconst_2,
  fun l0 l1 l2 l3 l4 l5 l6 x y st σ => dn_icmp_ne eX7_set dX7_set_50 (by decide),
  fun l0 l1 l2 l3 l5 l6 x st σ => dn_iload eX7_set dX7_set_53 rfl,
  fun l0 l1 l2 l3 l4 l5 l6 x st σ => dn_if_ne eX7_set dX7_set_55 (by decide),
  fun l0 l1 l2 l3 l4 l5 l6 st σ => dn_bipush eX7_set dX7_set_58 kc_bipush_99,
  fun l0 l1 l2 l3 l4 l5 l6 st σ => dn_goto eX7_set dX7_set_60 (by decide),
  fun l0 l1 l3 l4 l5 l6 x st σ => dn_iload_n eX7_set dX7_set_63 rfl,
  fun l0 l1 l2 l3 l4 l5 l6 st σ => dn_iconst eX7_set dX7_set_64 kc_iconst_2,
  fun l0 l1 l2 l3 l4 l5 l6 x y st σ => dn_icmp_ne eX7_set dX7_set_65 (by decide),
  fun l0 l1 l2 l3 l5 l6 x st σ => dn_iload eX7_set dX7_set_68 rfl,
  fun l0 l1 l2 l3 l4 l5 l6 st σ => dn_iconst eX7_set dX7_set_70 kc_iconst_5,
  fun l0 l1 l2 l3 l4 l5 l6 x y st σ => dn_icmp_ne eX7_set dX7_set_71 (by decide),
  fun l0 l1 l2 l3 l4 l5 l6 st σ => dn_bipush eX7_set dX7_set_74 kc_bipush_10⟩
set_option maxRecDepth 20000 in
theorem SX7_set_1 : (∀ (l0 l1 l2 l3 l4 l5 l6 : Option Value) (st : List Value) (σ : dS), den mX7_set 76 [l0, l1, l2, l3, l4, l5, l6] st σ = den mX7_set 96 [l0, l1, l2, l3, l4, l5, l6] st σ) ∧
  (∀ (l0 l1 l3 l4 l5 l6 : Option Value) (x : Int32) (st : List Value) (σ : dS), den mX7_set 79 [l0, l1, some (.int x), l3, l4, l5, l6] st σ = den mX7_set 80 [l0, l1, some (.int x), l3, l4, l5, l6] (.int x :: st) σ) ∧
  (∀ (l0 l1 l2 l3 l4 l5 l6 : Option Value) (st : List Value) (σ : dS), den mX7_set 80 [l0, l1, l2, l3, l4, l5, l6] st σ = den mX7_set 81 [l0, l1, l2, l3, l4, l5, l6] (.int (nI 3) :: st) σ) ∧
  (∀ (l0 l1 l2 l3 l4 l5 l6 : Option Value) (x y : Int32) (st : List Value) (σ : dS), den mX7_set 81 [l0, l1, l2, l3, l4, l5, l6] (.int y :: .int x :: st) σ = if x = y then den mX7_set 84 [l0, l1, l2, l3, l4, l5, l6] st σ else den mX7_set 94 [l0, l1, l2, l3, l4, l5, l6] st σ) ∧
  (∀ (l0 l1 l2 l3 l4 l6 : Option Value) (x : Int32) (st : List Value) (σ : dS), den mX7_set 84 [l0, l1, l2, l3, l4, some (.int x), l6] st σ = den mX7_set 86 [l0, l1, l2, l3, l4, some (.int x), l6] (.int x :: st) σ) ∧
  (∀ (l0 l1 l2 l3 l4 l5 l6 : Option Value) (x : Int32) (st : List Value) (σ : dS), den mX7_set 86 [l0, l1, l2, l3, l4, l5, l6] (.int x :: st) σ = if x = 0 then den mX7_set 94 [l0, l1, l2, l3, l4, l5, l6] st σ else den mX7_set 89 [l0, l1, l2, l3, l4, l5, l6] st σ) ∧
  (∀ (l0 l1 l2 l3 l4 l5 l6 : Option Value) (st : List Value) (σ : dS), den mX7_set 89 [l0, l1, l2, l3, l4, l5, l6] st σ = den mX7_set 91 [l0, l1, l2, l3, l4, l5, l6] (.int ((-4)) :: st) σ) ∧
  (∀ (l0 l1 l2 l3 l4 l5 l6 : Option Value) (st : List Value) (σ : dS), den mX7_set 91 [l0, l1, l2, l3, l4, l5, l6] st σ = den mX7_set 96 [l0, l1, l2, l3, l4, l5, l6] st σ) ∧
  (∀ (l0 l1 l2 l3 l4 l5 l6 : Option Value) (st : List Value) (σ : dS), den mX7_set 94 [l0, l1, l2, l3, l4, l5, l6] st σ = den mX7_set 96 [l0, l1, l2, l3, l4, l5, l6] (.int (nI 7) :: st) σ) ∧
  (∀ (l0 l1 l2 l3 l4 l6 : Option Value) (x : Int32) (y : Int32) (st : List Value) (σ : dS), den mX7_set 96 [l0, l1, l2, l3, l4, some (.int y), l6] (.int x :: st) σ = den mX7_set 98 [l0, l1, l2, l3, l4, some (.int y), some (.int x)] st σ) ∧
  (∀ (l0 l1 l2 l4 l5 l6 : Option Value) (x : Int32) (st : List Value) (σ : dS), den mX7_set 98 [l0, l1, l2, some (.int x), l4, l5, l6] st σ = den mX7_set 99 [l0, l1, l2, some (.int x), l4, l5, l6] (.int x :: st) σ) ∧
  (∀ (l0 l1 l2 l3 l4 l5 l6 : Option Value) (x : Int32) (st : List Value) (σ : dS), den mX7_set 99 [l0, l1, l2, l3, l4, l5, l6] (.int x :: st) σ = den mX7_set 100 [l0, l1, l2, l3, l4, l5, l6] (.long x.toInt64 :: st) σ) ∧
  (∀ (l0 l1 l2 l3 l4 l5 l6 : Option Value) (st : List Value) (σ : dS), den mX7_set 100 [l0, l1, l2, l3, l4, l5, l6] st σ = den mX7_set 101 [l0, l1, l2, l3, l4, l5, l6] (.long (lN 0) :: st) σ) ∧
  (∀ (l0 l1 l2 l3 l4 l5 : Option Value) (x : Int32) (st : List Value) (σ : dS), den mX7_set 101 [l0, l1, l2, l3, l4, l5, some (.int x)] st σ = den mX7_set 103 [l0, l1, l2, l3, l4, l5, some (.int x)] (.int x :: st) σ) ∧
  (∀ (l0 l1 l2 l3 l4 l5 l6 : Option Value) (x : Int32) (st : List Value) (σ : dS), den mX7_set 103 [l0, l1, l2, l3, l4, l5, l6] (.int x :: st) σ = den mX7_set 104 [l0, l1, l2, l3, l4, l5, l6] (.long x.toInt64 :: st) σ) ∧
  (∀ (l0 l1 l2 l3 l4 l5 l6 : Option Value) (a0 : Int64) (a1 : Int64) (a2 : Int64) (σ : dS), den mX7_set 104 [l0, l1, l2, l3, l4, l5, l6] [.long a2, .long a1, .long a0] σ = (dcall mX7_in [.long a0, .long a1, .long a2] σ).bind fun r => den mX7_set 107 [l0, l1, l2, l3, l4, l5, l6] (r.1.toList ++ []) r.2) ∧
  (∀ (l0 l1 l2 l3 l4 l5 l6 : Option Value) (x : Int32) (st : List Value) (σ : dS), den mX7_set 107 [l0, l1, l2, l3, l4, l5, l6] (.int x :: st) σ = if x = 0 then den mX7_set 123 [l0, l1, l2, l3, l4, l5, l6] st σ else den mX7_set 110 [l0, l1, l2, l3, l4, l5, l6] st σ) ∧
  (∀ (l1 l2 l3 l4 l5 l6 : Option Value) (x : Nat) (st : List Value) (σ : dS), den mX7_set 110 [some (.ref x), l1, l2, l3, l4, l5, l6] st σ = den mX7_set 111 [some (.ref x), l1, l2, l3, l4, l5, l6] (.ref x :: st) σ) ∧
  (∀ (l0 l1 l2 l3 l4 l5 l6 : Option Value) (st : List Value) (σ : dS), den mX7_set 111 [l0, l1, l2, l3, l4, l5, l6] st σ = den mX7_set 112 [l0, l1, l2, l3, l4, l5, l6] (.int (nI 5) :: st) σ) ∧
  (∀ (l0 l2 l3 l4 l5 l6 : Option Value) (x : Int32) (st : List Value) (σ : dS), den mX7_set 112 [l0, some (.int x), l2, l3, l4, l5, l6] st σ = den mX7_set 113 [l0, some (.int x), l2, l3, l4, l5, l6] (.int x :: st) σ) ∧
  (∀ (l0 l1 l2 l3 l4 l5 l6 : Option Value) (x y : Int32) (st : List Value) (σ : dS), den mX7_set 113 [l0, l1, l2, l3, l4, l5, l6] (.int y :: .int x :: st) σ = den mX7_set 114 [l0, l1, l2, l3, l4, l5, l6] (.int (x * y) :: st) σ) ∧
  (∀ (l0 l1 l3 l4 l5 l6 : Option Value) (x : Int32) (st : List Value) (σ : dS), den mX7_set 114 [l0, l1, some (.int x), l3, l4, l5, l6] st σ = den mX7_set 115 [l0, l1, some (.int x), l3, l4, l5, l6] (.int x :: st) σ) ∧
  (∀ (l0 l1 l2 l3 l4 l5 l6 : Option Value) (x y : Int32) (st : List Value) (σ : dS), den mX7_set 115 [l0, l1, l2, l3, l4, l5, l6] (.int y :: .int x :: st) σ = den mX7_set 116 [l0, l1, l2, l3, l4, l5, l6] (.int (x + y) :: st) σ) ∧
  (∀ (l0 l1 l2 l4 l5 l6 : Option Value) (x : Int32) (st : List Value) (σ : dS), den mX7_set 116 [l0, l1, l2, some (.int x), l4, l5, l6] st σ = den mX7_set 117 [l0, l1, l2, some (.int x), l4, l5, l6] (.int x :: st) σ) ∧
  (∀ (l0 l1 l2 l3 l4 l5 l6 : Option Value) (a0 : Int32) (a1 : Int32) (q : Nat) (σ : dS), den mX7_set 117 [l0, l1, l2, l3, l4, l5, l6] [.int a1, .int a0, .ref q] σ = if disO σ q 6 = true then ((dcall mX7_becomes [.ref q, .int a0, .int a1] σ).bind fun r => den mX7_set 120 [l0, l1, l2, l3, l4, l5, l6] (r.1.toList ++ []) r.2) else none) ∧
  (∀ (l0 l1 l2 l3 l4 l5 l6 : Option Value) (st : List Value) (σ : dS), den mX7_set 120 [l0, l1, l2, l3, l4, l5, l6] st σ = den mX7_set 124 [l0, l1, l2, l3, l4, l5, l6] st σ) ∧
  (∀ (l0 l1 l2 l3 l4 l5 l6 : Option Value) (st : List Value) (σ : dS), den mX7_set 123 [l0, l1, l2, l3, l4, l5, l6] st σ = den mX7_set 124 [l0, l1, l2, l3, l4, l5, l6] (.int ((-1)) :: st) σ) ∧
  (∀ (l0 l1 l2 l3 l4 l5 l6 : Option Value) (v : Int32) (σ : dS), den mX7_set 124 [l0, l1, l2, l3, l4, l5, l6] [.int v] σ = some (some (.int v), σ)) :=
  ⟨fun l0 l1 l2 l3 l4 l5 l6 st σ => dn_goto eX7_set dX7_set_76 (by decide),
  fun l0 l1 l3 l4 l5 l6 x st σ => dn_iload_n eX7_set dX7_set_79 rfl,
  fun l0 l1 l2 l3 l4 l5 l6 st σ => dn_iconst eX7_set dX7_set_80 kc_iconst_3,
  fun l0 l1 l2 l3 l4 l5 l6 x y st σ => dn_icmp_ne eX7_set dX7_set_81 (by decide),
  fun l0 l1 l2 l3 l4 l6 x st σ => dn_iload eX7_set dX7_set_84 rfl,
  fun l0 l1 l2 l3 l4 l5 l6 x st σ => dn_if_eq eX7_set dX7_set_86 (by decide),
  fun l0 l1 l2 l3 l4 l5 l6 st σ => dn_bipush eX7_set dX7_set_89 kc_bipush_m4,
  fun l0 l1 l2 l3 l4 l5 l6 st σ => dn_goto eX7_set dX7_set_91 (by decide),
  fun l0 l1 l2 l3 l4 l5 l6 st σ => dn_bipush eX7_set dX7_set_94 kc_bipush_7,
  fun l0 l1 l2 l3 l4 l6 x y st σ => dn_istore eX7_set dX7_set_96 rfl,
  fun l0 l1 l2 l4 l5 l6 x st σ => dn_iload_n eX7_set dX7_set_98 rfl,
  fun l0 l1 l2 l3 l4 l5 l6 x st σ => dn_i2l eX7_set dX7_set_99,
  fun l0 l1 l2 l3 l4 l5 l6 st σ => dn_lconst eX7_set dX7_set_100 kc_lconst_0,
  fun l0 l1 l2 l3 l4 l5 x st σ => dn_iload eX7_set dX7_set_101 rfl,
  fun l0 l1 l2 l3 l4 l5 l6 x st σ => dn_i2l eX7_set dX7_set_103,
  fun l0 l1 l2 l3 l4 l5 l6 a0 a1 a2 σ => dn_callS (e := (1, 102, 879)) (as := [.long a0, .long a1, .long a2]) (rest := []) eX7_set dX7_set_104 (by decide +kernel) (Or.inl rfl) (by decide +kernel) rfl (dcat_le rfl) (dlen_le rfl) rfl,
  fun l0 l1 l2 l3 l4 l5 l6 x st σ => dn_if_eq eX7_set dX7_set_107 (by decide),
  fun l1 l2 l3 l4 l5 l6 x st σ => dn_aload_n eX7_set dX7_set_110 rfl,
  fun l0 l1 l2 l3 l4 l5 l6 st σ => dn_iconst eX7_set dX7_set_111 kc_iconst_5,
  fun l0 l2 l3 l4 l5 l6 x st σ => dn_iload_n eX7_set dX7_set_112 rfl,
  fun l0 l1 l2 l3 l4 l5 l6 x y st σ => dn_imul eX7_set dX7_set_113,
  fun l0 l1 l3 l4 l5 l6 x st σ => dn_iload_n eX7_set dX7_set_114 rfl,
  fun l0 l1 l2 l3 l4 l5 l6 x y st σ => dn_iadd eX7_set dX7_set_115,
  fun l0 l1 l2 l4 l5 l6 x st σ => dn_iload_n eX7_set dX7_set_116 rfl,
  fun l0 l1 l2 l3 l4 l5 l6 a0 a1 q σ => rX7_set_117 l0 l1 l2 l3 l4 l5 l6 a0 a1 q σ,
  fun l0 l1 l2 l3 l4 l5 l6 st σ => dn_goto eX7_set dX7_set_120 (by decide),
  fun l0 l1 l2 l3 l4 l5 l6 st σ => dn_iconst eX7_set dX7_set_123 kc_iconst_m1,
  fun l0 l1 l2 l3 l4 l5 l6 v σ => dn_ireturn eX7_set dX7_set_124 rfl⟩
theorem CX7_turn (a0 : Nat) (a1 : Int32) (a2 : Int32) (σ : dS) : dcall mX7_turn [.ref a0, .int a1, .int a2] σ = den mX7_turn 0 [some (.ref a0), some (.int a1), some (.int a2), none] [] σ := dcall_den (by decide) rfl
theorem rX7_turn_2 (l0 l1 l2 l3 : Option Value) (a0 : Int32) (q : Nat) (σ : dS) : den mX7_turn 2 [l0, l1, l2, l3] [.int a0, .ref q] σ = if disO σ q 6 = true then ((dcall mX7_isCode [.ref q, .int a0] σ).bind fun r => den mX7_turn 5 [l0, l1, l2, l3] (r.1.toList ++ []) r.2) else none := by
  by_cases h : disO σ q 6 = true
  · rw [if_pos h]; exact dn_callV (e := (0, 121, 1008)) (as := [.int a0]) (rest := []) eX7_turn dX7_turn_2 (by decide +kernel) rfl (by decide +kernel) rfl (dcat_le rfl) (dlen_le rfl) rfl h
  · rw [if_neg h]; exact den_noV (e := (0, 121, 1008)) (as := [.int a0]) (rest := []) eX7_turn dX7_turn_2 (by decide +kernel) rfl rfl rfl h
theorem rX7_turn_11 (l0 l1 l2 l3 : Option Value) (a0 : Int32) (a1 : Int32) (q : Nat) (σ : dS) : den mX7_turn 11 [l0, l1, l2, l3] [.int a1, .int a0, .ref q] σ = if disO σ q 6 = true then ((dcall mX7_of [.ref q, .int a0, .int a1] σ).bind fun r => den mX7_turn 14 [l0, l1, l2, l3] (r.1.toList ++ []) r.2) else none := by
  by_cases h : disO σ q 6 = true
  · rw [if_pos h]; exact dn_callV (e := (0, 120, 947)) (as := [.int a0, .int a1]) (rest := []) eX7_turn dX7_turn_11 (by decide +kernel) rfl (by decide +kernel) rfl (dcat_le rfl) (dlen_le rfl) rfl h
  · rw [if_neg h]; exact den_noV (e := (0, 120, 947)) (as := [.int a0, .int a1]) (rest := []) eX7_turn dX7_turn_11 (by decide +kernel) rfl rfl rfl h
theorem rX7_turn_54 (l0 l1 l2 l3 : Option Value) (a0 : Int32) (a1 : Int32) (q : Nat) (σ : dS) : den mX7_turn 54 [l0, l1, l2, l3] [.int a1, .int a0, .ref q] σ = if disO σ q 6 = true then ((dcall mX7_becomes [.ref q, .int a0, .int a1] σ).bind fun r => den mX7_turn 57 [l0, l1, l2, l3] (r.1.toList ++ []) r.2) else none := by
  by_cases h : disO σ q 6 = true
  · rw [if_pos h]; exact dn_callV (e := (0, 157, 1099)) (as := [.int a0, .int a1]) (rest := []) eX7_turn dX7_turn_54 (by decide +kernel) rfl (by decide +kernel) rfl (dcat_le rfl) (dlen_le rfl) rfl h
  · rw [if_neg h]; exact den_noV (e := (0, 157, 1099)) (as := [.int a0, .int a1]) (rest := []) eX7_turn dX7_turn_54 (by decide +kernel) rfl rfl rfl h
set_option maxRecDepth 20000 in
theorem SX7_turn : (∀ (l1 l2 l3 : Option Value) (x : Nat) (st : List Value) (σ : dS), den mX7_turn 0 [some (.ref x), l1, l2, l3] st σ = den mX7_turn 1 [some (.ref x), l1, l2, l3] (.ref x :: st) σ) ∧
  (∀ (l0 l2 l3 : Option Value) (x : Int32) (st : List Value) (σ : dS), den mX7_turn 1 [l0, some (.int x), l2, l3] st σ = den mX7_turn 2 [l0, some (.int x), l2, l3] (.int x :: st) σ) ∧
  (∀ (l0 l1 l2 l3 : Option Value) (a0 : Int32) (q : Nat) (σ : dS), den mX7_turn 2 [l0, l1, l2, l3] [.int a0, .ref q] σ = if disO σ q 6 = true then ((dcall mX7_isCode [.ref q, .int a0] σ).bind fun r => den mX7_turn 5 [l0, l1, l2, l3] (r.1.toList ++ []) r.2) else none) ∧
  (∀ (l0 l1 l2 l3 : Option Value) (x : Int32) (st : List Value) (σ : dS), den mX7_turn 5 [l0, l1, l2, l3] (.int x :: st) σ = if x = 0 then den mX7_turn 41 [l0, l1, l2, l3] st σ else den mX7_turn 8 [l0, l1, l2, l3] st σ) ∧
  (∀ (l1 l2 l3 : Option Value) (x : Nat) (st : List Value) (σ : dS), den mX7_turn 8 [some (.ref x), l1, l2, l3] st σ = den mX7_turn 9 [some (.ref x), l1, l2, l3] (.ref x :: st) σ) ∧
  (∀ (l0 l2 l3 : Option Value) (x : Int32) (st : List Value) (σ : dS), den mX7_turn 9 [l0, some (.int x), l2, l3] st σ = den mX7_turn 10 [l0, some (.int x), l2, l3] (.int x :: st) σ) ∧
  (∀ (l0 l1 l2 l3 : Option Value) (st : List Value) (σ : dS), den mX7_turn 10 [l0, l1, l2, l3] st σ = den mX7_turn 11 [l0, l1, l2, l3] (.int (nI 0) :: st) σ) ∧
  (∀ (l0 l1 l2 l3 : Option Value) (a0 : Int32) (a1 : Int32) (q : Nat) (σ : dS), den mX7_turn 11 [l0, l1, l2, l3] [.int a1, .int a0, .ref q] σ = if disO σ q 6 = true then ((dcall mX7_of [.ref q, .int a0, .int a1] σ).bind fun r => den mX7_turn 14 [l0, l1, l2, l3] (r.1.toList ++ []) r.2) else none) ∧
  (∀ (l0 l1 l2 l3 : Option Value) (x : Int32) (st : List Value) (σ : dS), den mX7_turn 14 [l0, l1, l2, l3] (.int x :: st) σ = den mX7_turn 15 [l0, l1, l2, l3] (.long x.toInt64 :: st) σ) ∧
  (∀ (l0 l1 l2 l3 : Option Value) (st : List Value) (σ : dS), den mX7_turn 15 [l0, l1, l2, l3] st σ = den mX7_turn 16 [l0, l1, l2, l3] (.long (lN 1) :: st) σ) ∧
  (∀ (l0 l1 l2 l3 : Option Value) (st : List Value) (σ : dS), den mX7_turn 16 [l0, l1, l2, l3] st σ = den mX7_turn 19 [l0, l1, l2, l3] (.long (lN 4) :: st) σ) ∧
  (∀ (l0 l1 l2 l3 : Option Value) (a0 : Int64) (a1 : Int64) (a2 : Int64) (σ : dS), den mX7_turn 19 [l0, l1, l2, l3] [.long a2, .long a1, .long a0] σ = (dcall mX7_in [.long a0, .long a1, .long a2] σ).bind fun r => den mX7_turn 22 [l0, l1, l2, l3] (r.1.toList ++ []) r.2) ∧
  (∀ (l0 l1 l2 l3 : Option Value) (x : Int32) (st : List Value) (σ : dS), den mX7_turn 22 [l0, l1, l2, l3] (.int x :: st) σ = if x = 0 then den mX7_turn 41 [l0, l1, l2, l3] st σ else den mX7_turn 25 [l0, l1, l2, l3] st σ) ∧
  (∀ (l0 l1 l3 : Option Value) (x : Int32) (st : List Value) (σ : dS), den mX7_turn 25 [l0, l1, some (.int x), l3] st σ = den mX7_turn 26 [l0, l1, some (.int x), l3] (.int x :: st) σ) ∧
  (∀ (l0 l1 l2 l3 : Option Value) (x : Int32) (st : List Value) (σ : dS), den mX7_turn 26 [l0, l1, l2, l3] (.int x :: st) σ = den mX7_turn 27 [l0, l1, l2, l3] (.long x.toInt64 :: st) σ) ∧
  (∀ (l0 l1 l2 l3 : Option Value) (st : List Value) (σ : dS), den mX7_turn 27 [l0, l1, l2, l3] st σ = den mX7_turn 28 [l0, l1, l2, l3] (.long (lN 1) :: st) σ) ∧
  (∀ (l0 l1 l2 l3 : Option Value) (st : List Value) (σ : dS), den mX7_turn 28 [l0, l1, l2, l3] st σ = den mX7_turn 31 [l0, l1, l2, l3] (.long (lN 4) :: st) σ) ∧
  (∀ (l0 l1 l2 l3 : Option Value) (a0 : Int64) (a1 : Int64) (a2 : Int64) (σ : dS), den mX7_turn 31 [l0, l1, l2, l3] [.long a2, .long a1, .long a0] σ = (dcall mX7_in [.long a0, .long a1, .long a2] σ).bind fun r => den mX7_turn 34 [l0, l1, l2, l3] (r.1.toList ++ []) r.2) ∧
  (∀ (l0 l1 l2 l3 : Option Value) (x : Int32) (st : List Value) (σ : dS), den mX7_turn 34 [l0, l1, l2, l3] (.int x :: st) σ = if x = 0 then den mX7_turn 41 [l0, l1, l2, l3] st σ else den mX7_turn 37 [l0, l1, l2, l3] st σ) ∧
  (∀ (l0 l1 l2 l3 : Option Value) (st : List Value) (σ : dS), den mX7_turn 37 [l0, l1, l2, l3] st σ = den mX7_turn 38 [l0, l1, l2, l3] (.int (nI 1) :: st) σ) ∧
  (∀ (l0 l1 l2 l3 : Option Value) (st : List Value) (σ : dS), den mX7_turn 38 [l0, l1, l2, l3] st σ = den mX7_turn 42 [l0, l1, l2, l3] st σ) ∧
  (∀ (l0 l1 l2 l3 : Option Value) (st : List Value) (σ : dS), den mX7_turn 41 [l0, l1, l2, l3] st σ = den mX7_turn 42 [l0, l1, l2, l3] (.int (nI 0) :: st) σ) ∧
  (∀ (l0 l1 l3 : Option Value) (x : Int32) (y : Int32) (st : List Value) (σ : dS), den mX7_turn 42 [l0, l1, some (.int y), l3] (.int x :: st) σ = den mX7_turn 43 [l0, l1, some (.int y), some (.int x)] st σ) ∧
  (∀ (l0 l1 l2 : Option Value) (x : Int32) (st : List Value) (σ : dS), den mX7_turn 43 [l0, l1, l2, some (.int x)] st σ = den mX7_turn 44 [l0, l1, l2, some (.int x)] (.int x :: st) σ) ∧
  (∀ (l0 l1 l2 l3 : Option Value) (x : Int32) (st : List Value) (σ : dS), den mX7_turn 44 [l0, l1, l2, l3] (.int x :: st) σ = if x = 0 then den mX7_turn 60 [l0, l1, l2, l3] st σ else den mX7_turn 47 [l0, l1, l2, l3] st σ) ∧
  (∀ (l1 l2 l3 : Option Value) (x : Nat) (st : List Value) (σ : dS), den mX7_turn 47 [some (.ref x), l1, l2, l3] st σ = den mX7_turn 48 [some (.ref x), l1, l2, l3] (.ref x :: st) σ) ∧
  (∀ (l0 l1 l2 l3 : Option Value) (st : List Value) (σ : dS), den mX7_turn 48 [l0, l1, l2, l3] st σ = den mX7_turn 49 [l0, l1, l2, l3] (.int (nI 5) :: st) σ) ∧
  (∀ (l0 l2 l3 : Option Value) (x : Int32) (st : List Value) (σ : dS), den mX7_turn 49 [l0, some (.int x), l2, l3] st σ = den mX7_turn 50 [l0, some (.int x), l2, l3] (.int x :: st) σ) ∧
  (∀ (l0 l1 l2 l3 : Option Value) (x y : Int32) (st : List Value) (σ : dS), den mX7_turn 50 [l0, l1, l2, l3] (.int y :: .int x :: st) σ = den mX7_turn 51 [l0, l1, l2, l3] (.int (x * y) :: st) σ) ∧
  (∀ (l0 l1 l2 l3 : Option Value) (st : List Value) (σ : dS), den mX7_turn 51 [l0, l1, l2, l3] st σ = den mX7_turn 52 [l0, l1, l2, l3] (.int (nI 0) :: st) σ) ∧
  (∀ (l0 l1 l2 l3 : Option Value) (x y : Int32) (st : List Value) (σ : dS), den mX7_turn 52 [l0, l1, l2, l3] (.int y :: .int x :: st) σ = den mX7_turn 53 [l0, l1, l2, l3] (.int (x + y) :: st) σ) ∧
  (∀ (l0 l1 l3 : Option Value) (x : Int32) (st : List Value) (σ : dS), den mX7_turn 53 [l0, l1, some (.int x), l3] st σ = den mX7_turn 54 [l0, l1, some (.int x), l3] (.int x :: st) σ) ∧
  (∀ (l0 l1 l2 l3 : Option Value) (a0 : Int32) (a1 : Int32) (q : Nat) (σ : dS), den mX7_turn 54 [l0, l1, l2, l3] [.int a1, .int a0, .ref q] σ = if disO σ q 6 = true then ((dcall mX7_becomes [.ref q, .int a0, .int a1] σ).bind fun r => den mX7_turn 57 [l0, l1, l2, l3] (r.1.toList ++ []) r.2) else none) ∧
  (∀ (l0 l1 l2 l3 : Option Value) (st : List Value) (σ : dS), den mX7_turn 57 [l0, l1, l2, l3] st σ = den mX7_turn 61 [l0, l1, l2, l3] st σ) ∧
  (∀ (l0 l1 l2 l3 : Option Value) (st : List Value) (σ : dS), den mX7_turn 60 [l0, l1, l2, l3] st σ = den mX7_turn 61 [l0, l1, l2, l3] (.int ((-1)) :: st) σ) ∧
  (∀ (l0 l1 l2 l3 : Option Value) (v : Int32) (σ : dS), den mX7_turn 61 [l0, l1, l2, l3] [.int v] σ = some (some (.int v), σ)) :=
  ⟨fun l1 l2 l3 x st σ => dn_aload_n eX7_turn dX7_turn_0 rfl,
  fun l0 l2 l3 x st σ => dn_iload_n eX7_turn dX7_turn_1 rfl,
  fun l0 l1 l2 l3 a0 q σ => rX7_turn_2 l0 l1 l2 l3 a0 q σ,
  fun l0 l1 l2 l3 x st σ => dn_if_eq eX7_turn dX7_turn_5 (by decide),
  fun l1 l2 l3 x st σ => dn_aload_n eX7_turn dX7_turn_8 rfl,
  fun l0 l2 l3 x st σ => dn_iload_n eX7_turn dX7_turn_9 rfl,
  fun l0 l1 l2 l3 st σ => dn_iconst eX7_turn dX7_turn_10 kc_iconst_0,
  fun l0 l1 l2 l3 a0 a1 q σ => rX7_turn_11 l0 l1 l2 l3 a0 a1 q σ,
  fun l0 l1 l2 l3 x st σ => dn_i2l eX7_turn dX7_turn_14,
  fun l0 l1 l2 l3 st σ => dn_lconst eX7_turn dX7_turn_15 kc_lconst_1,
  fun l0 l1 l2 l3 st σ => dn_ldc2_w (w := 4) (p := 1177) eX7_turn dX7_turn_16 (by decide +kernel) (by decide +kernel),
  fun l0 l1 l2 l3 a0 a1 a2 σ => dn_callS (e := (1, 102, 879)) (as := [.long a0, .long a1, .long a2]) (rest := []) eX7_turn dX7_turn_19 (by decide +kernel) (Or.inl rfl) (by decide +kernel) rfl (dcat_le rfl) (dlen_le rfl) rfl,
  fun l0 l1 l2 l3 x st σ => dn_if_eq eX7_turn dX7_turn_22 (by decide),
  fun l0 l1 l3 x st σ => dn_iload_n eX7_turn dX7_turn_25 rfl,
  fun l0 l1 l2 l3 x st σ => dn_i2l eX7_turn dX7_turn_26,
  fun l0 l1 l2 l3 st σ => dn_lconst eX7_turn dX7_turn_27 kc_lconst_1,
  fun l0 l1 l2 l3 st σ => dn_ldc2_w (w := 4) (p := 1177) eX7_turn dX7_turn_28 (by decide +kernel) (by decide +kernel),
  fun l0 l1 l2 l3 a0 a1 a2 σ => dn_callS (e := (1, 102, 879)) (as := [.long a0, .long a1, .long a2]) (rest := []) eX7_turn dX7_turn_31 (by decide +kernel) (Or.inl rfl) (by decide +kernel) rfl (dcat_le rfl) (dlen_le rfl) rfl,
  fun l0 l1 l2 l3 x st σ => dn_if_eq eX7_turn dX7_turn_34 (by decide),
  fun l0 l1 l2 l3 st σ => dn_iconst eX7_turn dX7_turn_37 kc_iconst_1,
  fun l0 l1 l2 l3 st σ => dn_goto eX7_turn dX7_turn_38 (by decide),
  fun l0 l1 l2 l3 st σ => dn_iconst eX7_turn dX7_turn_41 kc_iconst_0,
  fun l0 l1 l3 x y st σ => dn_istore_n eX7_turn dX7_turn_42 rfl,
  fun l0 l1 l2 x st σ => dn_iload_n eX7_turn dX7_turn_43 rfl,
  fun l0 l1 l2 l3 x st σ => dn_if_eq eX7_turn dX7_turn_44 (by decide),
  fun l1 l2 l3 x st σ => dn_aload_n eX7_turn dX7_turn_47 rfl,
  fun l0 l1 l2 l3 st σ => dn_iconst eX7_turn dX7_turn_48 kc_iconst_5,
  fun l0 l2 l3 x st σ => dn_iload_n eX7_turn dX7_turn_49 rfl,
  fun l0 l1 l2 l3 x y st σ => dn_imul eX7_turn dX7_turn_50,
  fun l0 l1 l2 l3 st σ => dn_iconst eX7_turn dX7_turn_51 kc_iconst_0,
  fun l0 l1 l2 l3 x y st σ => dn_iadd eX7_turn dX7_turn_52,
  fun l0 l1 l3 x st σ => dn_iload_n eX7_turn dX7_turn_53 rfl,
  fun l0 l1 l2 l3 a0 a1 q σ => rX7_turn_54 l0 l1 l2 l3 a0 a1 q σ,
  fun l0 l1 l2 l3 st σ => dn_goto eX7_turn dX7_turn_57 (by decide),
  fun l0 l1 l2 l3 st σ => dn_iconst eX7_turn dX7_turn_60 kc_iconst_m1,
  fun l0 l1 l2 l3 v σ => dn_ireturn eX7_turn dX7_turn_61 rfl⟩
theorem CX7_keep (a0 : Nat) (a1 : Int32) (σ : dS) : dcall mX7_keep [.ref a0, .int a1] σ = den mX7_keep 0 [some (.ref a0), some (.int a1), none, none] [] σ := dcall_den (by decide) rfl
theorem hX7_keep_31 (l0 l1 l2 : Option Value) (x : Int32) (st : List Value) (σ : dS) : den mX7_keep 31 [l0, l1, l2, some (.int x)] st σ = den mX7_keep 32 [l0, l1, l2, some (.int x)] (.int x :: st) σ := dn_iload_n eX7_keep dX7_keep_31 rfl
set_option maxRecDepth 20000 in
theorem SX7_keep : (∀ (l0 l2 l3 : Option Value) (x : Int32) (st : List Value) (σ : dS), den mX7_keep 0 [l0, some (.int x), l2, l3] st σ = den mX7_keep 1 [l0, some (.int x), l2, l3] (.int x :: st) σ) ∧
  (∀ (l0 l1 l2 l3 : Option Value) (x : Int32) (st : List Value) (σ : dS), den mX7_keep 1 [l0, l1, l2, l3] (.int x :: st) σ = den mX7_keep 2 [l0, l1, l2, l3] (.long x.toInt64 :: st) σ) ∧
  (∀ (l0 l1 l2 l3 : Option Value) (st : List Value) (σ : dS), den mX7_keep 2 [l0, l1, l2, l3] st σ = den mX7_keep 3 [l0, l1, l2, l3] (.long (lN 0) :: st) σ) ∧
  (∀ (l0 l1 l2 l3 : Option Value) (st : List Value) (σ : dS), den mX7_keep 3 [l0, l1, l2, l3] st σ = den mX7_keep 4 [l0, l1, l2, l3] (.long (lN 1) :: st) σ) ∧
  (∀ (l0 l1 l2 l3 : Option Value) (a0 : Int64) (a1 : Int64) (a2 : Int64) (σ : dS), den mX7_keep 4 [l0, l1, l2, l3] [.long a2, .long a1, .long a0] σ = (dcall mX7_in [.long a0, .long a1, .long a2] σ).bind fun r => den mX7_keep 7 [l0, l1, l2, l3] (r.1.toList ++ []) r.2) ∧
  (∀ (l0 l1 l2 l3 : Option Value) (x : Int32) (st : List Value) (σ : dS), den mX7_keep 7 [l0, l1, l2, l3] (.int x :: st) σ = if x = 0 then den mX7_keep 10 [l0, l1, l2, l3] st σ else den mX7_keep 12 [l0, l1, l2, l3] st σ) ∧
  (∀ (l0 l1 l2 l3 : Option Value) (st : List Value) (σ : dS), den mX7_keep 10 [l0, l1, l2, l3] st σ = den mX7_keep 11 [l0, l1, l2, l3] (.int ((-1)) :: st) σ) ∧
  (∀ (l0 l1 l2 l3 : Option Value) (v : Int32) (σ : dS), den mX7_keep 11 [l0, l1, l2, l3] [.int v] σ = some (some (.int v), σ)) ∧
  (∀ (l1 l2 l3 : Option Value) (x : Nat) (st : List Value) (σ : dS), den mX7_keep 12 [some (.ref x), l1, l2, l3] st σ = den mX7_keep 13 [some (.ref x), l1, l2, l3] (.ref x :: st) σ) ∧
  (∀ (l0 l1 l2 l3 : Option Value) (q : Nat) (st : List Value) (σ : dS), den mX7_keep 13 [l0, l1, l2, l3] (.ref q :: st) σ = (dget σ q 6 2).bind fun v => den mX7_keep 16 [l0, l1, l2, l3] (v :: st) σ) ∧
  (∀ (l0 l2 l3 : Option Value) (x : Int32) (st : List Value) (σ : dS), den mX7_keep 16 [l0, some (.int x), l2, l3] st σ = den mX7_keep 17 [l0, some (.int x), l2, l3] (.int x :: st) σ) ∧
  (∀ (l0 l1 l2 l3 : Option Value) (q : Nat) (i : Int32) (st : List Value) (σ : dS), den mX7_keep 17 [l0, l1, l2, l3] (.int i :: .ref q :: st) σ = (dbld σ q i).bind fun v => den mX7_keep 18 [l0, l1, l2, l3] (.int v :: st) σ) ∧
  (∀ (l0 l1 l2 l3 : Option Value) (a0 : Int32) (σ : dS), den mX7_keep 18 [l0, l1, l2, l3] [.int a0] σ = (dcall mX7_flag [.int a0] σ).bind fun r => den mX7_keep 21 [l0, l1, l2, l3] (r.1.toList ++ []) r.2) ∧
  (∀ (l0 l2 l3 : Option Value) (x : Int32) (y : Int32) (st : List Value) (σ : dS), den mX7_keep 21 [l0, some (.int y), l2, l3] (.int x :: st) σ = den mX7_keep 22 [l0, some (.int y), some (.int x), l3] st σ) ∧
  (∀ (l1 l2 l3 : Option Value) (x : Nat) (st : List Value) (σ : dS), den mX7_keep 22 [some (.ref x), l1, l2, l3] st σ = den mX7_keep 23 [some (.ref x), l1, l2, l3] (.ref x :: st) σ) ∧
  (∀ (l0 l1 l2 l3 : Option Value) (q : Nat) (st : List Value) (σ : dS), den mX7_keep 23 [l0, l1, l2, l3] (.ref q :: st) σ = (dget σ q 6 2).bind fun v => den mX7_keep 26 [l0, l1, l2, l3] (v :: st) σ) ∧
  (∀ (l0 l2 l3 : Option Value) (x : Int32) (st : List Value) (σ : dS), den mX7_keep 26 [l0, some (.int x), l2, l3] st σ = den mX7_keep 27 [l0, some (.int x), l2, l3] (.int x :: st) σ) ∧
  (∀ (l0 l1 l2 l3 : Option Value) (st : List Value) (σ : dS), den mX7_keep 27 [l0, l1, l2, l3] st σ = den mX7_keep 28 [l0, l1, l2, l3] (.int (nI 1) :: st) σ) ∧
  (∀ (l0 l1 l2 l3 : Option Value) (q : Nat) (i x : Int32) (st : List Value) (σ : dS), den mX7_keep 28 [l0, l1, l2, l3] (.int x :: .int i :: .ref q :: st) σ = (dbst σ q i x).bind fun τ => den mX7_keep 29 [l0, l1, l2, l3] st τ) ∧
  (∀ (l0 l1 l2 l3 : Option Value) (st : List Value) (σ : dS), den mX7_keep 29 [l0, l1, l2, l3] st σ = den mX7_keep 30 [l0, l1, l2, l3] (.int (nI 0) :: st) σ) ∧
  (∀ (l0 l1 l3 : Option Value) (x : Int32) (y : Int32) (st : List Value) (σ : dS), den mX7_keep 30 [l0, l1, some (.int y), l3] (.int x :: st) σ = den mX7_keep 31 [l0, l1, some (.int y), some (.int x)] st σ) ∧
  (∀ (l0 l1 l2 l3 : Option Value) (st : List Value) (σ : dS), den mX7_keep 32 [l0, l1, l2, l3] st σ = den mX7_keep 35 [l0, l1, l2, l3] (.int (nI 128) :: st) σ) ∧
  (∀ (l0 l1 l2 l3 : Option Value) (x y : Int32) (st : List Value) (σ : dS), den mX7_keep 35 [l0, l1, l2, l3] (.int y :: .int x :: st) σ = if x < y then den mX7_keep 38 [l0, l1, l2, l3] st σ else den mX7_keep 62 [l0, l1, l2, l3] st σ) ∧
  (∀ (l1 l2 l3 : Option Value) (x : Nat) (st : List Value) (σ : dS), den mX7_keep 38 [some (.ref x), l1, l2, l3] st σ = den mX7_keep 39 [some (.ref x), l1, l2, l3] (.ref x :: st) σ) ∧
  (∀ (l0 l1 l2 l3 : Option Value) (q : Nat) (st : List Value) (σ : dS), den mX7_keep 39 [l0, l1, l2, l3] (.ref q :: st) σ = (dget σ q 6 1).bind fun v => den mX7_keep 42 [l0, l1, l2, l3] (v :: st) σ) ∧
  (∀ (l0 l1 l2 l3 : Option Value) (st : List Value) (σ : dS), den mX7_keep 42 [l0, l1, l2, l3] st σ = den mX7_keep 45 [l0, l1, l2, l3] (.int (nI 128) :: st) σ) ∧
  (∀ (l0 l2 l3 : Option Value) (x : Int32) (st : List Value) (σ : dS), den mX7_keep 45 [l0, some (.int x), l2, l3] st σ = den mX7_keep 46 [l0, some (.int x), l2, l3] (.int x :: st) σ) ∧
  (∀ (l0 l1 l2 l3 : Option Value) (x y : Int32) (st : List Value) (σ : dS), den mX7_keep 46 [l0, l1, l2, l3] (.int y :: .int x :: st) σ = den mX7_keep 47 [l0, l1, l2, l3] (.int (x * y) :: st) σ) ∧
  (∀ (l0 l1 l2 : Option Value) (x : Int32) (st : List Value) (σ : dS), den mX7_keep 47 [l0, l1, l2, some (.int x)] st σ = den mX7_keep 48 [l0, l1, l2, some (.int x)] (.int x :: st) σ) ∧
  (∀ (l0 l1 l2 l3 : Option Value) (x y : Int32) (st : List Value) (σ : dS), den mX7_keep 48 [l0, l1, l2, l3] (.int y :: .int x :: st) σ = den mX7_keep 49 [l0, l1, l2, l3] (.int (x + y) :: st) σ) ∧
  (∀ (l1 l2 l3 : Option Value) (x : Nat) (st : List Value) (σ : dS), den mX7_keep 49 [some (.ref x), l1, l2, l3] st σ = den mX7_keep 50 [some (.ref x), l1, l2, l3] (.ref x :: st) σ) ∧
  (∀ (l0 l1 l2 l3 : Option Value) (q : Nat) (st : List Value) (σ : dS), den mX7_keep 50 [l0, l1, l2, l3] (.ref q :: st) σ = (dget σ q 6 0).bind fun v => den mX7_keep 53 [l0, l1, l2, l3] (v :: st) σ) ∧
  (∀ (l0 l1 l2 : Option Value) (x : Int32) (st : List Value) (σ : dS), den mX7_keep 53 [l0, l1, l2, some (.int x)] st σ = den mX7_keep 54 [l0, l1, l2, some (.int x)] (.int x :: st) σ) ∧
  (∀ (l0 l1 l2 l3 : Option Value) (q : Nat) (i : Int32) (st : List Value) (σ : dS), den mX7_keep 54 [l0, l1, l2, l3] (.int i :: .ref q :: st) σ = if q ≤ dN then (dald σ q 0 i).bind (fun v => den mX7_keep 55 [l0, l1, l2, l3] (.int v :: st) σ) else none) ∧
  (∀ (l0 l1 l2 l3 : Option Value) (q : Nat) (i x : Int32) (st : List Value) (σ : dS), den mX7_keep 55 [l0, l1, l2, l3] (.int x :: .int i :: .ref q :: st) σ = (dast σ q 0 i x).bind fun τ => den mX7_keep 56 [l0, l1, l2, l3] st τ) ∧
  (∀ (l0 l1 : Option Value) (x : Int32) (y : Int32) (st : List Value) (σ : dS), den mX7_keep 56 [l0, l1, some (.int y), some (.int x)] st σ = den mX7_keep 59 [l0, l1, some (.int y), some (.int (x + nI 1))] st σ) ∧
  (∀ (l0 l1 l2 l3 : Option Value) (st : List Value) (σ : dS), den mX7_keep 59 [l0, l1, l2, l3] st σ = den mX7_keep 31 [l0, l1, l2, l3] st σ) ∧
  (∀ (l0 l1 l3 : Option Value) (x : Int32) (st : List Value) (σ : dS), den mX7_keep 62 [l0, l1, some (.int x), l3] st σ = den mX7_keep 63 [l0, l1, some (.int x), l3] (.int x :: st) σ) ∧
  (∀ (l0 l1 l2 l3 : Option Value) (v : Int32) (σ : dS), den mX7_keep 63 [l0, l1, l2, l3] [.int v] σ = some (some (.int v), σ)) :=
  ⟨fun l0 l2 l3 x st σ => dn_iload_n eX7_keep dX7_keep_0 rfl,
  fun l0 l1 l2 l3 x st σ => dn_i2l eX7_keep dX7_keep_1,
  fun l0 l1 l2 l3 st σ => dn_lconst eX7_keep dX7_keep_2 kc_lconst_0,
  fun l0 l1 l2 l3 st σ => dn_lconst eX7_keep dX7_keep_3 kc_lconst_1,
  fun l0 l1 l2 l3 a0 a1 a2 σ => dn_callS (e := (1, 102, 879)) (as := [.long a0, .long a1, .long a2]) (rest := []) eX7_keep dX7_keep_4 (by decide +kernel) (Or.inl rfl) (by decide +kernel) rfl (dcat_le rfl) (dlen_le rfl) rfl,
  fun l0 l1 l2 l3 x st σ => dn_if_ne eX7_keep dX7_keep_7 (by decide),
  fun l0 l1 l2 l3 st σ => dn_iconst eX7_keep dX7_keep_10 kc_iconst_m1,
  fun l0 l1 l2 l3 v σ => dn_ireturn eX7_keep dX7_keep_11 rfl,
  fun l1 l2 l3 x st σ => dn_aload_n eX7_keep dX7_keep_12 rfl,
  fun l0 l1 l2 l3 q st σ => dn_getfield (f := (6, 2, 773)) eX7_keep dX7_keep_13 (by decide +kernel),
  fun l0 l2 l3 x st σ => dn_iload_n eX7_keep dX7_keep_16 rfl,
  fun l0 l1 l2 l3 q i st σ => dn_baload eX7_keep dX7_keep_17,
  fun l0 l1 l2 l3 a0 σ => dn_callS (e := (1, 103, 951)) (as := [.int a0]) (rest := []) eX7_keep dX7_keep_18 (by decide +kernel) (Or.inl rfl) (by decide +kernel) rfl (dcat_le rfl) (dlen_le rfl) rfl,
  fun l0 l2 l3 x y st σ => dn_istore_n eX7_keep dX7_keep_21 rfl,
  fun l1 l2 l3 x st σ => dn_aload_n eX7_keep dX7_keep_22 rfl,
  fun l0 l1 l2 l3 q st σ => dn_getfield (f := (6, 2, 773)) eX7_keep dX7_keep_23 (by decide +kernel),
  fun l0 l2 l3 x st σ => dn_iload_n eX7_keep dX7_keep_26 rfl,
  fun l0 l1 l2 l3 st σ => dn_iconst eX7_keep dX7_keep_27 kc_iconst_1,
  fun l0 l1 l2 l3 q i x st σ => dn_bastore eX7_keep dX7_keep_28,
  fun l0 l1 l2 l3 st σ => dn_iconst eX7_keep dX7_keep_29 kc_iconst_0,
  fun l0 l1 l3 x y st σ => dn_istore_n eX7_keep dX7_keep_30 rfl,
  fun l0 l1 l2 l3 st σ => dn_sipush eX7_keep dX7_keep_32 kc_sipush_128,
  fun l0 l1 l2 l3 x y st σ => dn_icmp_ge eX7_keep dX7_keep_35 (by decide),
  fun l1 l2 l3 x st σ => dn_aload_n eX7_keep dX7_keep_38 rfl,
  fun l0 l1 l2 l3 q st σ => dn_getfield (f := (6, 1, 772)) eX7_keep dX7_keep_39 (by decide +kernel),
  fun l0 l1 l2 l3 st σ => dn_sipush eX7_keep dX7_keep_42 kc_sipush_128,
  fun l0 l2 l3 x st σ => dn_iload_n eX7_keep dX7_keep_45 rfl,
  fun l0 l1 l2 l3 x y st σ => dn_imul eX7_keep dX7_keep_46,
  fun l0 l1 l2 x st σ => dn_iload_n eX7_keep dX7_keep_47 rfl,
  fun l0 l1 l2 l3 x y st σ => dn_iadd eX7_keep dX7_keep_48,
  fun l1 l2 l3 x st σ => dn_aload_n eX7_keep dX7_keep_49 rfl,
  fun l0 l1 l2 l3 q st σ => dn_getfield (f := (6, 0, 771)) eX7_keep dX7_keep_50 (by decide +kernel),
  fun l0 l1 l2 x st σ => dn_iload_n eX7_keep dX7_keep_53 rfl,
  fun l0 l1 l2 l3 q i st σ => dn_iaload eX7_keep dX7_keep_54,
  fun l0 l1 l2 l3 q i x st σ => dn_iastore eX7_keep dX7_keep_55,
  fun l0 l1 x y st σ => dn_iinc (v := nI 1) eX7_keep dX7_keep_56 rfl kc_iconst_1 rfl,
  fun l0 l1 l2 l3 st σ => dn_goto eX7_keep dX7_keep_59 (by decide),
  fun l0 l1 l3 x st σ => dn_iload_n eX7_keep dX7_keep_62 rfl,
  fun l0 l1 l2 l3 v σ => dn_ireturn eX7_keep dX7_keep_63 rfl⟩
theorem CX7_back (a0 : Nat) (a1 : Int32) (σ : dS) : dcall mX7_back [.ref a0, .int a1] σ = den mX7_back 0 [some (.ref a0), some (.int a1), none] [] σ := dcall_den (by decide) rfl
theorem hX7_back_26 (l0 l1 : Option Value) (x : Int32) (st : List Value) (σ : dS) : den mX7_back 26 [l0, l1, some (.int x)] st σ = den mX7_back 27 [l0, l1, some (.int x)] (.int x :: st) σ := dn_iload_n eX7_back dX7_back_26 rfl
set_option maxRecDepth 20000 in
theorem SX7_back_0 : (∀ (l0 l2 : Option Value) (x : Int32) (st : List Value) (σ : dS), den mX7_back 0 [l0, some (.int x), l2] st σ = den mX7_back 1 [l0, some (.int x), l2] (.int x :: st) σ) ∧
  (∀ (l0 l1 l2 : Option Value) (x : Int32) (st : List Value) (σ : dS), den mX7_back 1 [l0, l1, l2] (.int x :: st) σ = den mX7_back 2 [l0, l1, l2] (.long x.toInt64 :: st) σ) ∧
  (∀ (l0 l1 l2 : Option Value) (st : List Value) (σ : dS), den mX7_back 2 [l0, l1, l2] st σ = den mX7_back 3 [l0, l1, l2] (.long (lN 0) :: st) σ) ∧
  (∀ (l0 l1 l2 : Option Value) (st : List Value) (σ : dS), den mX7_back 3 [l0, l1, l2] st σ = den mX7_back 4 [l0, l1, l2] (.long (lN 1) :: st) σ) ∧
  (∀ (l0 l1 l2 : Option Value) (a0 : Int64) (a1 : Int64) (a2 : Int64) (σ : dS), den mX7_back 4 [l0, l1, l2] [.long a2, .long a1, .long a0] σ = (dcall mX7_in [.long a0, .long a1, .long a2] σ).bind fun r => den mX7_back 7 [l0, l1, l2] (r.1.toList ++ []) r.2) ∧
  (∀ (l0 l1 l2 : Option Value) (x : Int32) (st : List Value) (σ : dS), den mX7_back 7 [l0, l1, l2] (.int x :: st) σ = if x = 0 then den mX7_back 10 [l0, l1, l2] st σ else den mX7_back 12 [l0, l1, l2] st σ) ∧
  (∀ (l0 l1 l2 : Option Value) (st : List Value) (σ : dS), den mX7_back 10 [l0, l1, l2] st σ = den mX7_back 11 [l0, l1, l2] (.int ((-1)) :: st) σ) ∧
  (∀ (l0 l1 l2 : Option Value) (v : Int32) (σ : dS), den mX7_back 11 [l0, l1, l2] [.int v] σ = some (some (.int v), σ)) ∧
  (∀ (l1 l2 : Option Value) (x : Nat) (st : List Value) (σ : dS), den mX7_back 12 [some (.ref x), l1, l2] st σ = den mX7_back 13 [some (.ref x), l1, l2] (.ref x :: st) σ) ∧
  (∀ (l0 l1 l2 : Option Value) (q : Nat) (st : List Value) (σ : dS), den mX7_back 13 [l0, l1, l2] (.ref q :: st) σ = (dget σ q 6 2).bind fun v => den mX7_back 16 [l0, l1, l2] (v :: st) σ) ∧
  (∀ (l0 l2 : Option Value) (x : Int32) (st : List Value) (σ : dS), den mX7_back 16 [l0, some (.int x), l2] st σ = den mX7_back 17 [l0, some (.int x), l2] (.int x :: st) σ) ∧
  (∀ (l0 l1 l2 : Option Value) (q : Nat) (i : Int32) (st : List Value) (σ : dS), den mX7_back 17 [l0, l1, l2] (.int i :: .ref q :: st) σ = (dbld σ q i).bind fun v => den mX7_back 18 [l0, l1, l2] (.int v :: st) σ) ∧
  (∀ (l0 l1 l2 : Option Value) (x : Int32) (st : List Value) (σ : dS), den mX7_back 18 [l0, l1, l2] (.int x :: st) σ = if x = 0 then den mX7_back 21 [l0, l1, l2] st σ else den mX7_back 24 [l0, l1, l2] st σ) ∧
  (∀ (l0 l1 l2 : Option Value) (st : List Value) (σ : dS), den mX7_back 21 [l0, l1, l2] st σ = den mX7_back 23 [l0, l1, l2] (.int ((-2)) :: st) σ) ∧
  (∀ (l0 l1 l2 : Option Value) (v : Int32) (σ : dS), den mX7_back 23 [l0, l1, l2] [.int v] σ = some (some (.int v), σ)) ∧
  (∀ (l0 l1 l2 : Option Value) (st : List Value) (σ : dS), den mX7_back 24 [l0, l1, l2] st σ = den mX7_back 25 [l0, l1, l2] (.int (nI 0) :: st) σ) ∧
  (∀ (l0 l2 : Option Value) (x : Int32) (y : Int32) (st : List Value) (σ : dS), den mX7_back 25 [l0, some (.int y), l2] (.int x :: st) σ = den mX7_back 26 [l0, some (.int y), some (.int x)] st σ) ∧
  (∀ (l0 l1 l2 : Option Value) (st : List Value) (σ : dS), den mX7_back 27 [l0, l1, l2] st σ = den mX7_back 30 [l0, l1, l2] (.int (nI 128) :: st) σ) ∧
  (∀ (l0 l1 l2 : Option Value) (x y : Int32) (st : List Value) (σ : dS), den mX7_back 30 [l0, l1, l2] (.int y :: .int x :: st) σ = if x < y then den mX7_back 33 [l0, l1, l2] st σ else den mX7_back 57 [l0, l1, l2] st σ) ∧
  (∀ (l1 l2 : Option Value) (x : Nat) (st : List Value) (σ : dS), den mX7_back 33 [some (.ref x), l1, l2] st σ = den mX7_back 34 [some (.ref x), l1, l2] (.ref x :: st) σ) ∧
  (∀ (l0 l1 l2 : Option Value) (q : Nat) (st : List Value) (σ : dS), den mX7_back 34 [l0, l1, l2] (.ref q :: st) σ = (dget σ q 6 0).bind fun v => den mX7_back 37 [l0, l1, l2] (v :: st) σ) ∧
  (∀ (l0 l1 : Option Value) (x : Int32) (st : List Value) (σ : dS), den mX7_back 37 [l0, l1, some (.int x)] st σ = den mX7_back 38 [l0, l1, some (.int x)] (.int x :: st) σ) ∧
  (∀ (l1 l2 : Option Value) (x : Nat) (st : List Value) (σ : dS), den mX7_back 38 [some (.ref x), l1, l2] st σ = den mX7_back 39 [some (.ref x), l1, l2] (.ref x :: st) σ) ∧
  (∀ (l0 l1 l2 : Option Value) (q : Nat) (st : List Value) (σ : dS), den mX7_back 39 [l0, l1, l2] (.ref q :: st) σ = (dget σ q 6 1).bind fun v => den mX7_back 42 [l0, l1, l2] (v :: st) σ) ∧
  (∀ (l0 l1 l2 : Option Value) (st : List Value) (σ : dS), den mX7_back 42 [l0, l1, l2] st σ = den mX7_back 45 [l0, l1, l2] (.int (nI 128) :: st) σ) ∧
  (∀ (l0 l2 : Option Value) (x : Int32) (st : List Value) (σ : dS), den mX7_back 45 [l0, some (.int x), l2] st σ = den mX7_back 46 [l0, some (.int x), l2] (.int x :: st) σ) ∧
  (∀ (l0 l1 l2 : Option Value) (x y : Int32) (st : List Value) (σ : dS), den mX7_back 46 [l0, l1, l2] (.int y :: .int x :: st) σ = den mX7_back 47 [l0, l1, l2] (.int (x * y) :: st) σ) ∧
  (∀ (l0 l1 : Option Value) (x : Int32) (st : List Value) (σ : dS), den mX7_back 47 [l0, l1, some (.int x)] st σ = den mX7_back 48 [l0, l1, some (.int x)] (.int x :: st) σ) ∧
  (∀ (l0 l1 l2 : Option Value) (x y : Int32) (st : List Value) (σ : dS), den mX7_back 48 [l0, l1, l2] (.int y :: .int x :: st) σ = den mX7_back 49 [l0, l1, l2] (.int (x + y) :: st) σ) ∧
  (∀ (l0 l1 l2 : Option Value) (q : Nat) (i : Int32) (st : List Value) (σ : dS), den mX7_back 49 [l0, l1, l2] (.int i :: .ref q :: st) σ = if q ≤ dN then (dald σ q 0 i).bind (fun v => den mX7_back 50 [l0, l1, l2] (.int v :: st) σ) else none) ∧
  (∀ (l0 l1 l2 : Option Value) (q : Nat) (i x : Int32) (st : List Value) (σ : dS), den mX7_back 50 [l0, l1, l2] (.int x :: .int i :: .ref q :: st) σ = (dast σ q 0 i x).bind fun τ => den mX7_back 51 [l0, l1, l2] st τ) ∧
  (∀ (l0 : Option Value) (x : Int32) (y : Int32) (st : List Value) (σ : dS), den mX7_back 51 [l0, some (.int y), some (.int x)] st σ = den mX7_back 54 [l0, some (.int y), some (.int (x + nI 1))] st σ) ∧
  (∀ (l0 l1 l2 : Option Value) (st : List Value) (σ : dS), den mX7_back 54 [l0, l1, l2] st σ = den mX7_back 26 [l0, l1, l2] st σ) ∧
  (∀ (l1 l2 : Option Value) (x : Nat) (st : List Value) (σ : dS), den mX7_back 57 [some (.ref x), l1, l2] st σ = den mX7_back 58 [some (.ref x), l1, l2] (.ref x :: st) σ) ∧
  (∀ (l0 l1 l2 : Option Value) (st : List Value) (σ : dS), den mX7_back 58 [l0, l1, l2] st σ = den mX7_back 59 [l0, l1, l2] (.int (nI 0) :: st) σ) ∧
  (∀ (l0 l1 l2 : Option Value) (x : Int32) (q : Nat) (st : List Value) (σ : dS), den mX7_back 59 [l0, l1, l2] (.int x :: .ref q :: st) σ = if x = 0 ∨ x = 1 then ((dput σ q 6 20 (.int x)).bind fun τ => den mX7_back 62 [l0, l1, l2] st τ) else none) ∧
  (∀ (l1 l2 : Option Value) (x : Nat) (st : List Value) (σ : dS), den mX7_back 62 [some (.ref x), l1, l2] st σ = den mX7_back 63 [some (.ref x), l1, l2] (.ref x :: st) σ) ∧
  (∀ (l0 l1 l2 : Option Value) (q : Nat) (st : List Value) (σ : dS), den mX7_back 63 [l0, l1, l2] (.ref q :: st) σ = (dget σ q 6 0).bind fun v => den mX7_back 66 [l0, l1, l2] (v :: st) σ) ∧
  (∀ (l0 l1 l2 : Option Value) (st : List Value) (σ : dS), den mX7_back 66 [l0, l1, l2] st σ = den mX7_back 68 [l0, l1, l2] (.int (nI 120) :: st) σ) ∧
  (∀ (l0 l1 l2 : Option Value) (q : Nat) (i : Int32) (st : List Value) (σ : dS), den mX7_back 68 [l0, l1, l2] (.int i :: .ref q :: st) σ = if q ≤ dN then (dald σ q 0 i).bind (fun v => den mX7_back 69 [l0, l1, l2] (.int v :: st) σ) else none) :=
  ⟨fun l0 l2 x st σ => dn_iload_n eX7_back dX7_back_0 rfl,
  fun l0 l1 l2 x st σ => dn_i2l eX7_back dX7_back_1,
  fun l0 l1 l2 st σ => dn_lconst eX7_back dX7_back_2 kc_lconst_0,
  fun l0 l1 l2 st σ => dn_lconst eX7_back dX7_back_3 kc_lconst_1,
  fun l0 l1 l2 a0 a1 a2 σ => dn_callS (e := (1, 102, 879)) (as := [.long a0, .long a1, .long a2]) (rest := []) eX7_back dX7_back_4 (by decide +kernel) (Or.inl rfl) (by decide +kernel) rfl (dcat_le rfl) (dlen_le rfl) rfl,
  fun l0 l1 l2 x st σ => dn_if_ne eX7_back dX7_back_7 (by decide),
  fun l0 l1 l2 st σ => dn_iconst eX7_back dX7_back_10 kc_iconst_m1,
  fun l0 l1 l2 v σ => dn_ireturn eX7_back dX7_back_11 rfl,
  fun l1 l2 x st σ => dn_aload_n eX7_back dX7_back_12 rfl,
  fun l0 l1 l2 q st σ => dn_getfield (f := (6, 2, 773)) eX7_back dX7_back_13 (by decide +kernel),
  fun l0 l2 x st σ => dn_iload_n eX7_back dX7_back_16 rfl,
  fun l0 l1 l2 q i st σ => dn_baload eX7_back dX7_back_17,
  fun l0 l1 l2 x st σ => dn_if_ne eX7_back dX7_back_18 (by decide),
  fun l0 l1 l2 st σ => dn_bipush eX7_back dX7_back_21 kc_bipush_m2,
  fun l0 l1 l2 v σ => dn_ireturn eX7_back dX7_back_23 rfl,
  fun l0 l1 l2 st σ => dn_iconst eX7_back dX7_back_24 kc_iconst_0,
  fun l0 l2 x y st σ => dn_istore_n eX7_back dX7_back_25 rfl,
  fun l0 l1 l2 st σ => dn_sipush eX7_back dX7_back_27 kc_sipush_128,
  fun l0 l1 l2 x y st σ => dn_icmp_ge eX7_back dX7_back_30 (by decide),
  fun l1 l2 x st σ => dn_aload_n eX7_back dX7_back_33 rfl,
  fun l0 l1 l2 q st σ => dn_getfield (f := (6, 0, 771)) eX7_back dX7_back_34 (by decide +kernel),
  fun l0 l1 x st σ => dn_iload_n eX7_back dX7_back_37 rfl,
  fun l1 l2 x st σ => dn_aload_n eX7_back dX7_back_38 rfl,
  fun l0 l1 l2 q st σ => dn_getfield (f := (6, 1, 772)) eX7_back dX7_back_39 (by decide +kernel),
  fun l0 l1 l2 st σ => dn_sipush eX7_back dX7_back_42 kc_sipush_128,
  fun l0 l2 x st σ => dn_iload_n eX7_back dX7_back_45 rfl,
  fun l0 l1 l2 x y st σ => dn_imul eX7_back dX7_back_46,
  fun l0 l1 x st σ => dn_iload_n eX7_back dX7_back_47 rfl,
  fun l0 l1 l2 x y st σ => dn_iadd eX7_back dX7_back_48,
  fun l0 l1 l2 q i st σ => dn_iaload eX7_back dX7_back_49,
  fun l0 l1 l2 q i x st σ => dn_iastore eX7_back dX7_back_50,
  fun l0 x y st σ => dn_iinc (v := nI 1) eX7_back dX7_back_51 rfl kc_iconst_1 rfl,
  fun l0 l1 l2 st σ => dn_goto eX7_back dX7_back_54 (by decide),
  fun l1 l2 x st σ => dn_aload_n eX7_back dX7_back_57 rfl,
  fun l0 l1 l2 st σ => dn_iconst eX7_back dX7_back_58 kc_iconst_0,
  fun l0 l1 l2 x q st σ => dn_putfieldZ (f := (6, 20, 791)) eX7_back dX7_back_59 (by decide +kernel) (by decide +kernel),
  fun l1 l2 x st σ => dn_aload_n eX7_back dX7_back_62 rfl,
  fun l0 l1 l2 q st σ => dn_getfield (f := (6, 0, 771)) eX7_back dX7_back_63 (by decide +kernel),
  fun l0 l1 l2 st σ => dn_bipush eX7_back dX7_back_66 kc_bipush_120,
  fun l0 l1 l2 q i st σ => dn_iaload eX7_back dX7_back_68⟩
theorem SX7_back_1 : (∀ (l0 l1 l2 : Option Value) (v : Int32) (σ : dS), den mX7_back 69 [l0, l1, l2] [.int v] σ = some (some (.int v), σ)) := fun l0 l1 l2 v σ => dn_ireturn eX7_back dX7_back_69 rfl
theorem CX7_isSheet (a0 : Int32) (a1 : Int32) (σ : dS) : dcall mX7_isSheet [.int a0, .int a1] σ = den mX7_isSheet 0 [some (.int a0), some (.int a1)] [] σ := dcall_den (by decide) rfl
set_option maxRecDepth 20000 in
theorem SX7_isSheet : (∀ (l1 : Option Value) (x : Int32) (st : List Value) (σ : dS), den mX7_isSheet 0 [some (.int x), l1] st σ = den mX7_isSheet 1 [some (.int x), l1] (.int x :: st) σ) ∧
  (∀ (l0 l1 : Option Value) (x : Int32) (st : List Value) (σ : dS), den mX7_isSheet 1 [l0, l1] (.int x :: st) σ = den mX7_isSheet 2 [l0, l1] (.long x.toInt64 :: st) σ) ∧
  (∀ (l0 l1 : Option Value) (st : List Value) (σ : dS), den mX7_isSheet 2 [l0, l1] st σ = den mX7_isSheet 3 [l0, l1] (.long (lN 0) :: st) σ) ∧
  (∀ (l0 l1 : Option Value) (st : List Value) (σ : dS), den mX7_isSheet 3 [l0, l1] st σ = den mX7_isSheet 6 [l0, l1] (.long (lN 3) :: st) σ) ∧
  (∀ (l0 l1 : Option Value) (a0 : Int64) (a1 : Int64) (a2 : Int64) (σ : dS), den mX7_isSheet 6 [l0, l1] [.long a2, .long a1, .long a0] σ = (dcall mX7_in [.long a0, .long a1, .long a2] σ).bind fun r => den mX7_isSheet 9 [l0, l1] (r.1.toList ++ []) r.2) ∧
  (∀ (l0 l1 : Option Value) (x : Int32) (st : List Value) (σ : dS), den mX7_isSheet 9 [l0, l1] (.int x :: st) σ = if x = 0 then den mX7_isSheet 28 [l0, l1] st σ else den mX7_isSheet 12 [l0, l1] st σ) ∧
  (∀ (l0 : Option Value) (x : Int32) (st : List Value) (σ : dS), den mX7_isSheet 12 [l0, some (.int x)] st σ = den mX7_isSheet 13 [l0, some (.int x)] (.int x :: st) σ) ∧
  (∀ (l0 l1 : Option Value) (x : Int32) (st : List Value) (σ : dS), den mX7_isSheet 13 [l0, l1] (.int x :: st) σ = den mX7_isSheet 14 [l0, l1] (.long x.toInt64 :: st) σ) ∧
  (∀ (l0 l1 : Option Value) (st : List Value) (σ : dS), den mX7_isSheet 14 [l0, l1] st σ = den mX7_isSheet 15 [l0, l1] (.long (lN 0) :: st) σ) ∧
  (∀ (l0 l1 : Option Value) (st : List Value) (σ : dS), den mX7_isSheet 15 [l0, l1] st σ = den mX7_isSheet 18 [l0, l1] (.long (lN 2) :: st) σ) ∧
  (∀ (l0 l1 : Option Value) (a0 : Int64) (a1 : Int64) (a2 : Int64) (σ : dS), den mX7_isSheet 18 [l0, l1] [.long a2, .long a1, .long a0] σ = (dcall mX7_in [.long a0, .long a1, .long a2] σ).bind fun r => den mX7_isSheet 21 [l0, l1] (r.1.toList ++ []) r.2) ∧
  (∀ (l0 l1 : Option Value) (x : Int32) (st : List Value) (σ : dS), den mX7_isSheet 21 [l0, l1] (.int x :: st) σ = if x = 0 then den mX7_isSheet 28 [l0, l1] st σ else den mX7_isSheet 24 [l0, l1] st σ) ∧
  (∀ (l0 l1 : Option Value) (st : List Value) (σ : dS), den mX7_isSheet 24 [l0, l1] st σ = den mX7_isSheet 25 [l0, l1] (.int (nI 1) :: st) σ) ∧
  (∀ (l0 l1 : Option Value) (st : List Value) (σ : dS), den mX7_isSheet 25 [l0, l1] st σ = den mX7_isSheet 29 [l0, l1] st σ) ∧
  (∀ (l0 l1 : Option Value) (st : List Value) (σ : dS), den mX7_isSheet 28 [l0, l1] st σ = den mX7_isSheet 29 [l0, l1] (.int (nI 0) :: st) σ) ∧
  (∀ (l0 l1 : Option Value) (v : Int32) (σ : dS), den mX7_isSheet 29 [l0, l1] [.int v] σ = if v = 0 ∨ v = 1 then some (some (.int v), σ) else none) :=
  ⟨fun l1 x st σ => dn_iload_n eX7_isSheet dX7_isSheet_0 rfl,
  fun l0 l1 x st σ => dn_i2l eX7_isSheet dX7_isSheet_1,
  fun l0 l1 st σ => dn_lconst eX7_isSheet dX7_isSheet_2 kc_lconst_0,
  fun l0 l1 st σ => dn_ldc2_w (w := 3) (p := 1172) eX7_isSheet dX7_isSheet_3 (by decide +kernel) (by decide +kernel),
  fun l0 l1 a0 a1 a2 σ => dn_callS (e := (1, 102, 879)) (as := [.long a0, .long a1, .long a2]) (rest := []) eX7_isSheet dX7_isSheet_6 (by decide +kernel) (Or.inl rfl) (by decide +kernel) rfl (dcat_le rfl) (dlen_le rfl) rfl,
  fun l0 l1 x st σ => dn_if_eq eX7_isSheet dX7_isSheet_9 (by decide),
  fun l0 x st σ => dn_iload_n eX7_isSheet dX7_isSheet_12 rfl,
  fun l0 l1 x st σ => dn_i2l eX7_isSheet dX7_isSheet_13,
  fun l0 l1 st σ => dn_lconst eX7_isSheet dX7_isSheet_14 kc_lconst_0,
  fun l0 l1 st σ => dn_ldc2_w (w := 2) (p := 1098) eX7_isSheet dX7_isSheet_15 (by decide +kernel) (by decide +kernel),
  fun l0 l1 a0 a1 a2 σ => dn_callS (e := (1, 102, 879)) (as := [.long a0, .long a1, .long a2]) (rest := []) eX7_isSheet dX7_isSheet_18 (by decide +kernel) (Or.inl rfl) (by decide +kernel) rfl (dcat_le rfl) (dlen_le rfl) rfl,
  fun l0 l1 x st σ => dn_if_eq eX7_isSheet dX7_isSheet_21 (by decide),
  fun l0 l1 st σ => dn_iconst eX7_isSheet dX7_isSheet_24 kc_iconst_1,
  fun l0 l1 st σ => dn_goto eX7_isSheet dX7_isSheet_25 (by decide),
  fun l0 l1 st σ => dn_iconst eX7_isSheet dX7_isSheet_28 kc_iconst_0,
  fun l0 l1 v σ => dn_zreturn eX7_isSheet dX7_isSheet_29 rfl⟩
theorem CX7_sheet (a0 : Nat) (a1 : Int32) (a2 : Int32) (a3 : Int32) (σ : dS) : dcall mX7_sheet [.ref a0, .int a1, .int a2, .int a3] σ = den mX7_sheet 0 [some (.ref a0), some (.int a1), some (.int a2), some (.int a3), none] [] σ := dcall_den (by decide) rfl
theorem hX7_sheet_40 (l0 l1 l2 l3 : Option Value) (x : Int32) (st : List Value) (σ : dS) : den mX7_sheet 40 [l0, l1, l2, l3, some (.int x)] st σ = den mX7_sheet 42 [l0, l1, l2, l3, some (.int x)] (.int x :: st) σ := dn_iload eX7_sheet dX7_sheet_40 rfl
set_option maxRecDepth 20000 in
theorem SX7_sheet : (∀ (l0 l2 l3 l4 : Option Value) (x : Int32) (st : List Value) (σ : dS), den mX7_sheet 0 [l0, some (.int x), l2, l3, l4] st σ = den mX7_sheet 1 [l0, some (.int x), l2, l3, l4] (.int x :: st) σ) ∧
  (∀ (l0 l1 l3 l4 : Option Value) (x : Int32) (st : List Value) (σ : dS), den mX7_sheet 1 [l0, l1, some (.int x), l3, l4] st σ = den mX7_sheet 2 [l0, l1, some (.int x), l3, l4] (.int x :: st) σ) ∧
  (∀ (l0 l1 l2 l3 l4 : Option Value) (a0 : Int32) (a1 : Int32) (σ : dS), den mX7_sheet 2 [l0, l1, l2, l3, l4] [.int a1, .int a0] σ = (dcall mX7_isSheet [.int a0, .int a1] σ).bind fun r => den mX7_sheet 5 [l0, l1, l2, l3, l4] (r.1.toList ++ []) r.2) ∧
  (∀ (l0 l1 l2 l3 l4 : Option Value) (x : Int32) (st : List Value) (σ : dS), den mX7_sheet 5 [l0, l1, l2, l3, l4] (.int x :: st) σ = if x = 0 then den mX7_sheet 14 [l0, l1, l2, l3, l4] st σ else den mX7_sheet 8 [l0, l1, l2, l3, l4] st σ) ∧
  (∀ (l0 l1 l2 l4 : Option Value) (x : Int32) (st : List Value) (σ : dS), den mX7_sheet 8 [l0, l1, l2, some (.int x), l4] st σ = den mX7_sheet 9 [l0, l1, l2, some (.int x), l4] (.int x :: st) σ) ∧
  (∀ (l0 l1 l2 l3 l4 : Option Value) (st : List Value) (σ : dS), den mX7_sheet 9 [l0, l1, l2, l3, l4] st σ = den mX7_sheet 11 [l0, l1, l2, l3, l4] (.int (nI 40) :: st) σ) ∧
  (∀ (l0 l1 l2 l3 l4 : Option Value) (x y : Int32) (st : List Value) (σ : dS), den mX7_sheet 11 [l0, l1, l2, l3, l4] (.int y :: .int x :: st) σ = if y < x then den mX7_sheet 14 [l0, l1, l2, l3, l4] st σ else den mX7_sheet 16 [l0, l1, l2, l3, l4] st σ) ∧
  (∀ (l0 l1 l2 l3 l4 : Option Value) (st : List Value) (σ : dS), den mX7_sheet 14 [l0, l1, l2, l3, l4] st σ = den mX7_sheet 15 [l0, l1, l2, l3, l4] (.int ((-1)) :: st) σ) ∧
  (∀ (l0 l1 l2 l3 l4 : Option Value) (v : Int32) (σ : dS), den mX7_sheet 15 [l0, l1, l2, l3, l4] [.int v] σ = some (some (.int v), σ)) ∧
  (∀ (l0 l1 l2 l4 : Option Value) (x : Int32) (st : List Value) (σ : dS), den mX7_sheet 16 [l0, l1, l2, some (.int x), l4] st σ = den mX7_sheet 17 [l0, l1, l2, some (.int x), l4] (.int x :: st) σ) ∧
  (∀ (l0 l1 l2 l3 l4 : Option Value) (x : Int32) (st : List Value) (σ : dS), den mX7_sheet 17 [l0, l1, l2, l3, l4] (.int x :: st) σ = if x < 0 then den mX7_sheet 20 [l0, l1, l2, l3, l4] st σ else den mX7_sheet 23 [l0, l1, l2, l3, l4] st σ) ∧
  (∀ (l0 l1 l2 l3 l4 : Option Value) (st : List Value) (σ : dS), den mX7_sheet 20 [l0, l1, l2, l3, l4] st σ = den mX7_sheet 22 [l0, l1, l2, l3, l4] (.int ((-14)) :: st) σ) ∧
  (∀ (l0 l1 l2 l3 l4 : Option Value) (v : Int32) (σ : dS), den mX7_sheet 22 [l0, l1, l2, l3, l4] [.int v] σ = some (some (.int v), σ)) ∧
  (∀ (l1 l2 l3 l4 : Option Value) (x : Nat) (st : List Value) (σ : dS), den mX7_sheet 23 [some (.ref x), l1, l2, l3, l4] st σ = den mX7_sheet 24 [some (.ref x), l1, l2, l3, l4] (.ref x :: st) σ) ∧
  (∀ (l0 l1 l2 l3 l4 : Option Value) (q : Nat) (st : List Value) (σ : dS), den mX7_sheet 24 [l0, l1, l2, l3, l4] (.ref q :: st) σ = (dget σ q 6 29).bind fun v => den mX7_sheet 27 [l0, l1, l2, l3, l4] (v :: st) σ) ∧
  (∀ (l0 l2 l3 l4 : Option Value) (x : Int32) (st : List Value) (σ : dS), den mX7_sheet 27 [l0, some (.int x), l2, l3, l4] st σ = den mX7_sheet 28 [l0, some (.int x), l2, l3, l4] (.int x :: st) σ) ∧
  (∀ (l0 l1 l3 l4 : Option Value) (x : Int32) (st : List Value) (σ : dS), den mX7_sheet 28 [l0, l1, some (.int x), l3, l4] st σ = den mX7_sheet 29 [l0, l1, some (.int x), l3, l4] (.int x :: st) σ) ∧
  (∀ (l0 l1 l2 l3 l4 : Option Value) (q : Nat) (i x : Int32) (st : List Value) (σ : dS), den mX7_sheet 29 [l0, l1, l2, l3, l4] (.int x :: .int i :: .ref q :: st) σ = (dast σ q 0 i x).bind fun τ => den mX7_sheet 30 [l0, l1, l2, l3, l4] st τ) ∧
  (∀ (l1 l2 l3 l4 : Option Value) (x : Nat) (st : List Value) (σ : dS), den mX7_sheet 30 [some (.ref x), l1, l2, l3, l4] st σ = den mX7_sheet 31 [some (.ref x), l1, l2, l3, l4] (.ref x :: st) σ) ∧
  (∀ (l0 l1 l2 l3 l4 : Option Value) (q : Nat) (st : List Value) (σ : dS), den mX7_sheet 31 [l0, l1, l2, l3, l4] (.ref q :: st) σ = (dget σ q 6 30).bind fun v => den mX7_sheet 34 [l0, l1, l2, l3, l4] (v :: st) σ) ∧
  (∀ (l0 l2 l3 l4 : Option Value) (x : Int32) (st : List Value) (σ : dS), den mX7_sheet 34 [l0, some (.int x), l2, l3, l4] st σ = den mX7_sheet 35 [l0, some (.int x), l2, l3, l4] (.int x :: st) σ) ∧
  (∀ (l0 l1 l2 l4 : Option Value) (x : Int32) (st : List Value) (σ : dS), den mX7_sheet 35 [l0, l1, l2, some (.int x), l4] st σ = den mX7_sheet 36 [l0, l1, l2, some (.int x), l4] (.int x :: st) σ) ∧
  (∀ (l0 l1 l2 l3 l4 : Option Value) (q : Nat) (i x : Int32) (st : List Value) (σ : dS), den mX7_sheet 36 [l0, l1, l2, l3, l4] (.int x :: .int i :: .ref q :: st) σ = (dast σ q 0 i x).bind fun τ => den mX7_sheet 37 [l0, l1, l2, l3, l4] st τ) ∧
  (∀ (l0 l1 l2 l3 l4 : Option Value) (st : List Value) (σ : dS), den mX7_sheet 37 [l0, l1, l2, l3, l4] st σ = den mX7_sheet 38 [l0, l1, l2, l3, l4] (.int (nI 0) :: st) σ) ∧
  (∀ (l0 l1 l2 l4 : Option Value) (x : Int32) (y : Int32) (st : List Value) (σ : dS), den mX7_sheet 38 [l0, l1, l2, some (.int y), l4] (.int x :: st) σ = den mX7_sheet 40 [l0, l1, l2, some (.int y), some (.int x)] st σ) ∧
  (∀ (l0 l1 l2 l3 l4 : Option Value) (st : List Value) (σ : dS), den mX7_sheet 42 [l0, l1, l2, l3, l4] st σ = den mX7_sheet 44 [l0, l1, l2, l3, l4] (.int (nI 40) :: st) σ) ∧
  (∀ (l0 l1 l2 l3 l4 : Option Value) (x y : Int32) (st : List Value) (σ : dS), den mX7_sheet 44 [l0, l1, l2, l3, l4] (.int y :: .int x :: st) σ = if x < y then den mX7_sheet 47 [l0, l1, l2, l3, l4] st σ else den mX7_sheet 66 [l0, l1, l2, l3, l4] st σ) ∧
  (∀ (l1 l2 l3 l4 : Option Value) (x : Nat) (st : List Value) (σ : dS), den mX7_sheet 47 [some (.ref x), l1, l2, l3, l4] st σ = den mX7_sheet 48 [some (.ref x), l1, l2, l3, l4] (.ref x :: st) σ) ∧
  (∀ (l0 l1 l2 l3 l4 : Option Value) (q : Nat) (st : List Value) (σ : dS), den mX7_sheet 48 [l0, l1, l2, l3, l4] (.ref q :: st) σ = (dget σ q 6 31).bind fun v => den mX7_sheet 51 [l0, l1, l2, l3, l4] (v :: st) σ) ∧
  (∀ (l0 l1 l2 l3 l4 : Option Value) (st : List Value) (σ : dS), den mX7_sheet 51 [l0, l1, l2, l3, l4] st σ = den mX7_sheet 53 [l0, l1, l2, l3, l4] (.int (nI 40) :: st) σ) ∧
  (∀ (l0 l2 l3 l4 : Option Value) (x : Int32) (st : List Value) (σ : dS), den mX7_sheet 53 [l0, some (.int x), l2, l3, l4] st σ = den mX7_sheet 54 [l0, some (.int x), l2, l3, l4] (.int x :: st) σ) ∧
  (∀ (l0 l1 l2 l3 l4 : Option Value) (x y : Int32) (st : List Value) (σ : dS), den mX7_sheet 54 [l0, l1, l2, l3, l4] (.int y :: .int x :: st) σ = den mX7_sheet 55 [l0, l1, l2, l3, l4] (.int (x * y) :: st) σ) ∧
  (∀ (l0 l1 l2 l3 : Option Value) (x : Int32) (st : List Value) (σ : dS), den mX7_sheet 55 [l0, l1, l2, l3, some (.int x)] st σ = den mX7_sheet 57 [l0, l1, l2, l3, some (.int x)] (.int x :: st) σ) ∧
  (∀ (l0 l1 l2 l3 l4 : Option Value) (x y : Int32) (st : List Value) (σ : dS), den mX7_sheet 57 [l0, l1, l2, l3, l4] (.int y :: .int x :: st) σ = den mX7_sheet 58 [l0, l1, l2, l3, l4] (.int (x + y) :: st) σ) ∧
  (∀ (l0 l1 l2 l3 l4 : Option Value) (st : List Value) (σ : dS), den mX7_sheet 58 [l0, l1, l2, l3, l4] st σ = den mX7_sheet 59 [l0, l1, l2, l3, l4] (.int (nI 0) :: st) σ) ∧
  (∀ (l0 l1 l2 l3 l4 : Option Value) (q : Nat) (i x : Int32) (st : List Value) (σ : dS), den mX7_sheet 59 [l0, l1, l2, l3, l4] (.int x :: .int i :: .ref q :: st) σ = (dast σ q 0 i x).bind fun τ => den mX7_sheet 60 [l0, l1, l2, l3, l4] st τ) ∧
  (∀ (l0 l1 l2 : Option Value) (x : Int32) (y : Int32) (st : List Value) (σ : dS), den mX7_sheet 60 [l0, l1, l2, some (.int y), some (.int x)] st σ = den mX7_sheet 63 [l0, l1, l2, some (.int y), some (.int (x + nI 1))] st σ) ∧
  (∀ (l0 l1 l2 l3 l4 : Option Value) (st : List Value) (σ : dS), den mX7_sheet 63 [l0, l1, l2, l3, l4] st σ = den mX7_sheet 40 [l0, l1, l2, l3, l4] st σ) ∧
  (∀ (l0 l1 l2 l3 l4 : Option Value) (st : List Value) (σ : dS), den mX7_sheet 66 [l0, l1, l2, l3, l4] st σ = den mX7_sheet 67 [l0, l1, l2, l3, l4] (.int (nI 1) :: st) σ) ∧
  (∀ (l0 l1 l2 l3 l4 : Option Value) (v : Int32) (σ : dS), den mX7_sheet 67 [l0, l1, l2, l3, l4] [.int v] σ = some (some (.int v), σ)) :=
  ⟨fun l0 l2 l3 l4 x st σ => dn_iload_n eX7_sheet dX7_sheet_0 rfl,
  fun l0 l1 l3 l4 x st σ => dn_iload_n eX7_sheet dX7_sheet_1 rfl,
  fun l0 l1 l2 l3 l4 a0 a1 σ => dn_callS (e := (1, 179, 1190)) (as := [.int a0, .int a1]) (rest := []) eX7_sheet dX7_sheet_2 (by decide +kernel) (Or.inl rfl) (by decide +kernel) rfl (dcat_le rfl) (dlen_le rfl) rfl,
  fun l0 l1 l2 l3 l4 x st σ => dn_if_eq eX7_sheet dX7_sheet_5 (by decide),
  fun l0 l1 l2 l4 x st σ => dn_iload_n eX7_sheet dX7_sheet_8 rfl,
  fun l0 l1 l2 l3 l4 st σ => dn_bipush eX7_sheet dX7_sheet_9 kc_bipush_40,
  fun l0 l1 l2 l3 l4 x y st σ => dn_icmp_le eX7_sheet dX7_sheet_11 (by decide),
  fun l0 l1 l2 l3 l4 st σ => dn_iconst eX7_sheet dX7_sheet_14 kc_iconst_m1,
  fun l0 l1 l2 l3 l4 v σ => dn_ireturn eX7_sheet dX7_sheet_15 rfl,
  fun l0 l1 l2 l4 x st σ => dn_iload_n eX7_sheet dX7_sheet_16 rfl,
  fun l0 l1 l2 l3 l4 x st σ => dn_if_ge eX7_sheet dX7_sheet_17 (by decide),
  fun l0 l1 l2 l3 l4 st σ => dn_bipush eX7_sheet dX7_sheet_20 kc_bipush_m14,
  fun l0 l1 l2 l3 l4 v σ => dn_ireturn eX7_sheet dX7_sheet_22 rfl,
  fun l1 l2 l3 l4 x st σ => dn_aload_n eX7_sheet dX7_sheet_23 rfl,
  fun l0 l1 l2 l3 l4 q st σ => dn_getfield (f := (6, 29, 800)) eX7_sheet dX7_sheet_24 (by decide +kernel),
  fun l0 l2 l3 l4 x st σ => dn_iload_n eX7_sheet dX7_sheet_27 rfl,
  fun l0 l1 l3 l4 x st σ => dn_iload_n eX7_sheet dX7_sheet_28 rfl,
  fun l0 l1 l2 l3 l4 q i x st σ => dn_iastore eX7_sheet dX7_sheet_29,
  fun l1 l2 l3 l4 x st σ => dn_aload_n eX7_sheet dX7_sheet_30 rfl,
  fun l0 l1 l2 l3 l4 q st σ => dn_getfield (f := (6, 30, 801)) eX7_sheet dX7_sheet_31 (by decide +kernel),
  fun l0 l2 l3 l4 x st σ => dn_iload_n eX7_sheet dX7_sheet_34 rfl,
  fun l0 l1 l2 l4 x st σ => dn_iload_n eX7_sheet dX7_sheet_35 rfl,
  fun l0 l1 l2 l3 l4 q i x st σ => dn_iastore eX7_sheet dX7_sheet_36,
  fun l0 l1 l2 l3 l4 st σ => dn_iconst eX7_sheet dX7_sheet_37 kc_iconst_0,
  fun l0 l1 l2 l4 x y st σ => dn_istore eX7_sheet dX7_sheet_38 rfl,
  fun l0 l1 l2 l3 l4 st σ => dn_bipush eX7_sheet dX7_sheet_42 kc_bipush_40,
  fun l0 l1 l2 l3 l4 x y st σ => dn_icmp_ge eX7_sheet dX7_sheet_44 (by decide),
  fun l1 l2 l3 l4 x st σ => dn_aload_n eX7_sheet dX7_sheet_47 rfl,
  fun l0 l1 l2 l3 l4 q st σ => dn_getfield (f := (6, 31, 802)) eX7_sheet dX7_sheet_48 (by decide +kernel),
  fun l0 l1 l2 l3 l4 st σ => dn_bipush eX7_sheet dX7_sheet_51 kc_bipush_40,
  fun l0 l2 l3 l4 x st σ => dn_iload_n eX7_sheet dX7_sheet_53 rfl,
  fun l0 l1 l2 l3 l4 x y st σ => dn_imul eX7_sheet dX7_sheet_54,
  fun l0 l1 l2 l3 x st σ => dn_iload eX7_sheet dX7_sheet_55 rfl,
  fun l0 l1 l2 l3 l4 x y st σ => dn_iadd eX7_sheet dX7_sheet_57,
  fun l0 l1 l2 l3 l4 st σ => dn_iconst eX7_sheet dX7_sheet_58 kc_iconst_0,
  fun l0 l1 l2 l3 l4 q i x st σ => dn_iastore eX7_sheet dX7_sheet_59,
  fun l0 l1 l2 x y st σ => dn_iinc (v := nI 1) eX7_sheet dX7_sheet_60 rfl kc_iconst_1 rfl,
  fun l0 l1 l2 l3 l4 st σ => dn_goto eX7_sheet dX7_sheet_63 (by decide),
  fun l0 l1 l2 l3 l4 st σ => dn_iconst eX7_sheet dX7_sheet_66 kc_iconst_1,
  fun l0 l1 l2 l3 l4 v σ => dn_ireturn eX7_sheet dX7_sheet_67 rfl⟩
theorem CX7_lay (a0 : Nat) (a1 : Int32) (a2 : Int32) (a3 : Int32) (σ : dS) : dcall mX7_lay [.ref a0, .int a1, .int a2, .int a3] σ = den mX7_lay 0 [some (.ref a0), some (.int a1), some (.int a2), some (.int a3)] [] σ := dcall_den (by decide) rfl
set_option maxRecDepth 20000 in
theorem SX7_lay_0 : (∀ (l0 l2 l3 : Option Value) (x : Int32) (st : List Value) (σ : dS), den mX7_lay 0 [l0, some (.int x), l2, l3] st σ = den mX7_lay 1 [l0, some (.int x), l2, l3] (.int x :: st) σ) ∧
  (∀ (l0 l1 l2 l3 : Option Value) (st : List Value) (σ : dS), den mX7_lay 1 [l0, l1, l2, l3] st σ = den mX7_lay 2 [l0, l1, l2, l3] (.int (nI 0) :: st) σ) ∧
  (∀ (l0 l1 l2 l3 : Option Value) (a0 : Int32) (a1 : Int32) (σ : dS), den mX7_lay 2 [l0, l1, l2, l3] [.int a1, .int a0] σ = (dcall mX7_isSheet [.int a0, .int a1] σ).bind fun r => den mX7_lay 5 [l0, l1, l2, l3] (r.1.toList ++ []) r.2) ∧
  (∀ (l0 l1 l2 l3 : Option Value) (x : Int32) (st : List Value) (σ : dS), den mX7_lay 5 [l0, l1, l2, l3] (.int x :: st) σ = if x = 0 then den mX7_lay 8 [l0, l1, l2, l3] st σ else den mX7_lay 10 [l0, l1, l2, l3] st σ) ∧
  (∀ (l0 l1 l2 l3 : Option Value) (st : List Value) (σ : dS), den mX7_lay 8 [l0, l1, l2, l3] st σ = den mX7_lay 9 [l0, l1, l2, l3] (.int ((-1)) :: st) σ) ∧
  (∀ (l0 l1 l2 l3 : Option Value) (v : Int32) (σ : dS), den mX7_lay 9 [l0, l1, l2, l3] [.int v] σ = some (some (.int v), σ)) ∧
  (∀ (l1 l2 l3 : Option Value) (x : Nat) (st : List Value) (σ : dS), den mX7_lay 10 [some (.ref x), l1, l2, l3] st σ = den mX7_lay 11 [some (.ref x), l1, l2, l3] (.ref x :: st) σ) ∧
  (∀ (l0 l1 l2 l3 : Option Value) (q : Nat) (st : List Value) (σ : dS), den mX7_lay 11 [l0, l1, l2, l3] (.ref q :: st) σ = (dget σ q 6 29).bind fun v => den mX7_lay 14 [l0, l1, l2, l3] (v :: st) σ) ∧
  (∀ (l0 l2 l3 : Option Value) (x : Int32) (st : List Value) (σ : dS), den mX7_lay 14 [l0, some (.int x), l2, l3] st σ = den mX7_lay 15 [l0, some (.int x), l2, l3] (.int x :: st) σ) ∧
  (∀ (l0 l1 l2 l3 : Option Value) (q : Nat) (i : Int32) (st : List Value) (σ : dS), den mX7_lay 15 [l0, l1, l2, l3] (.int i :: .ref q :: st) σ = if q ≤ dN then (dald σ q 0 i).bind (fun v => den mX7_lay 16 [l0, l1, l2, l3] (.int v :: st) σ) else none) ∧
  (∀ (l0 l1 l2 l3 : Option Value) (st : List Value) (σ : dS), den mX7_lay 16 [l0, l1, l2, l3] st σ = den mX7_lay 18 [l0, l1, l2, l3] (.int ((-4)) :: st) σ) ∧
  (∀ (l0 l1 l2 l3 : Option Value) (x y : Int32) (st : List Value) (σ : dS), den mX7_lay 18 [l0, l1, l2, l3] (.int y :: .int x :: st) σ = if x = y then den mX7_lay 21 [l0, l1, l2, l3] st σ else den mX7_lay 24 [l0, l1, l2, l3] st σ) ∧
  (∀ (l0 l1 l2 l3 : Option Value) (st : List Value) (σ : dS), den mX7_lay 21 [l0, l1, l2, l3] st σ = den mX7_lay 23 [l0, l1, l2, l3] (.int ((-11)) :: st) σ) ∧
  (∀ (l0 l1 l2 l3 : Option Value) (v : Int32) (σ : dS), den mX7_lay 23 [l0, l1, l2, l3] [.int v] σ = some (some (.int v), σ)) ∧
  (∀ (l0 l1 l3 : Option Value) (x : Int32) (st : List Value) (σ : dS), den mX7_lay 24 [l0, l1, some (.int x), l3] st σ = den mX7_lay 25 [l0, l1, some (.int x), l3] (.int x :: st) σ) ∧
  (∀ (l0 l1 l2 l3 : Option Value) (x : Int32) (st : List Value) (σ : dS), den mX7_lay 25 [l0, l1, l2, l3] (.int x :: st) σ = den mX7_lay 26 [l0, l1, l2, l3] (.long x.toInt64 :: st) σ) ∧
  (∀ (l0 l1 l2 l3 : Option Value) (st : List Value) (σ : dS), den mX7_lay 26 [l0, l1, l2, l3] st σ = den mX7_lay 27 [l0, l1, l2, l3] (.long (lN 0) :: st) σ) ∧
  (∀ (l1 l2 l3 : Option Value) (x : Nat) (st : List Value) (σ : dS), den mX7_lay 27 [some (.ref x), l1, l2, l3] st σ = den mX7_lay 28 [some (.ref x), l1, l2, l3] (.ref x :: st) σ) ∧
  (∀ (l0 l1 l2 l3 : Option Value) (q : Nat) (st : List Value) (σ : dS), den mX7_lay 28 [l0, l1, l2, l3] (.ref q :: st) σ = (dget σ q 6 30).bind fun v => den mX7_lay 31 [l0, l1, l2, l3] (v :: st) σ) ∧
  (∀ (l0 l2 l3 : Option Value) (x : Int32) (st : List Value) (σ : dS), den mX7_lay 31 [l0, some (.int x), l2, l3] st σ = den mX7_lay 32 [l0, some (.int x), l2, l3] (.int x :: st) σ) ∧
  (∀ (l0 l1 l2 l3 : Option Value) (q : Nat) (i : Int32) (st : List Value) (σ : dS), den mX7_lay 32 [l0, l1, l2, l3] (.int i :: .ref q :: st) σ = if q ≤ dN then (dald σ q 0 i).bind (fun v => den mX7_lay 33 [l0, l1, l2, l3] (.int v :: st) σ) else none) ∧
  (∀ (l0 l1 l2 l3 : Option Value) (st : List Value) (σ : dS), den mX7_lay 33 [l0, l1, l2, l3] st σ = den mX7_lay 34 [l0, l1, l2, l3] (.int (nI 1) :: st) σ) ∧
  (∀ (l0 l1 l2 l3 : Option Value) (x y : Int32) (st : List Value) (σ : dS), den mX7_lay 34 [l0, l1, l2, l3] (.int y :: .int x :: st) σ = den mX7_lay 35 [l0, l1, l2, l3] (.int (x - y) :: st) σ) ∧
  (∀ (l0 l1 l2 l3 : Option Value) (x : Int32) (st : List Value) (σ : dS), den mX7_lay 35 [l0, l1, l2, l3] (.int x :: st) σ = den mX7_lay 36 [l0, l1, l2, l3] (.long x.toInt64 :: st) σ) ∧
  (∀ (l0 l1 l2 l3 : Option Value) (a0 : Int64) (a1 : Int64) (a2 : Int64) (σ : dS), den mX7_lay 36 [l0, l1, l2, l3] [.long a2, .long a1, .long a0] σ = (dcall mX7_in [.long a0, .long a1, .long a2] σ).bind fun r => den mX7_lay 39 [l0, l1, l2, l3] (r.1.toList ++ []) r.2) ∧
  (∀ (l0 l1 l2 l3 : Option Value) (x : Int32) (st : List Value) (σ : dS), den mX7_lay 39 [l0, l1, l2, l3] (.int x :: st) σ = if x = 0 then den mX7_lay 42 [l0, l1, l2, l3] st σ else den mX7_lay 45 [l0, l1, l2, l3] st σ) ∧
  (∀ (l0 l1 l2 l3 : Option Value) (st : List Value) (σ : dS), den mX7_lay 42 [l0, l1, l2, l3] st σ = den mX7_lay 44 [l0, l1, l2, l3] (.int ((-12)) :: st) σ) ∧
  (∀ (l0 l1 l2 l3 : Option Value) (v : Int32) (σ : dS), den mX7_lay 44 [l0, l1, l2, l3] [.int v] σ = some (some (.int v), σ)) ∧
  (∀ (l1 l2 l3 : Option Value) (x : Nat) (st : List Value) (σ : dS), den mX7_lay 45 [some (.ref x), l1, l2, l3] st σ = den mX7_lay 46 [some (.ref x), l1, l2, l3] (.ref x :: st) σ) ∧
  (∀ (l0 l1 l2 l3 : Option Value) (q : Nat) (st : List Value) (σ : dS), den mX7_lay 46 [l0, l1, l2, l3] (.ref q :: st) σ = (dget σ q 6 31).bind fun v => den mX7_lay 49 [l0, l1, l2, l3] (v :: st) σ) ∧
  (∀ (l0 l1 l2 l3 : Option Value) (st : List Value) (σ : dS), den mX7_lay 49 [l0, l1, l2, l3] st σ = den mX7_lay 51 [l0, l1, l2, l3] (.int (nI 40) :: st) σ) ∧
  (∀ (l0 l2 l3 : Option Value) (x : Int32) (st : List Value) (σ : dS), den mX7_lay 51 [l0, some (.int x), l2, l3] st σ = den mX7_lay 52 [l0, some (.int x), l2, l3] (.int x :: st) σ) ∧
  (∀ (l0 l1 l2 l3 : Option Value) (x y : Int32) (st : List Value) (σ : dS), den mX7_lay 52 [l0, l1, l2, l3] (.int y :: .int x :: st) σ = den mX7_lay 53 [l0, l1, l2, l3] (.int (x * y) :: st) σ) ∧
  (∀ (l0 l1 l3 : Option Value) (x : Int32) (st : List Value) (σ : dS), den mX7_lay 53 [l0, l1, some (.int x), l3] st σ = den mX7_lay 54 [l0, l1, some (.int x), l3] (.int x :: st) σ) ∧
  (∀ (l0 l1 l2 l3 : Option Value) (x y : Int32) (st : List Value) (σ : dS), den mX7_lay 54 [l0, l1, l2, l3] (.int y :: .int x :: st) σ = den mX7_lay 55 [l0, l1, l2, l3] (.int (x + y) :: st) σ) ∧
  (∀ (l1 l2 l3 : Option Value) (x : Nat) (st : List Value) (σ : dS), den mX7_lay 55 [some (.ref x), l1, l2, l3] st σ = den mX7_lay 56 [some (.ref x), l1, l2, l3] (.ref x :: st) σ) ∧
  (∀ (l0 l1 l2 l3 : Option Value) (q : Nat) (st : List Value) (σ : dS), den mX7_lay 56 [l0, l1, l2, l3] (.ref q :: st) σ = (dget σ q 6 29).bind fun v => den mX7_lay 59 [l0, l1, l2, l3] (v :: st) σ) ∧
  (∀ (l0 l2 l3 : Option Value) (x : Int32) (st : List Value) (σ : dS), den mX7_lay 59 [l0, some (.int x), l2, l3] st σ = den mX7_lay 60 [l0, some (.int x), l2, l3] (.int x :: st) σ) ∧
  (∀ (l0 l1 l2 l3 : Option Value) (q : Nat) (i : Int32) (st : List Value) (σ : dS), den mX7_lay 60 [l0, l1, l2, l3] (.int i :: .ref q :: st) σ = if q ≤ dN then (dald σ q 0 i).bind (fun v => den mX7_lay 61 [l0, l1, l2, l3] (.int v :: st) σ) else none) ∧
  (∀ (l0 l1 l2 l3 : Option Value) (x : Int32) (st : List Value) (σ : dS), den mX7_lay 61 [l0, l1, l2, l3] (.int x :: st) σ = if x = 0 then den mX7_lay 64 [l0, l1, l2, l3] st σ else den mX7_lay 69 [l0, l1, l2, l3] st σ) :=
  ⟨fun l0 l2 l3 x st σ => dn_iload_n eX7_lay dX7_lay_0 rfl,
  fun l0 l1 l2 l3 st σ => dn_iconst eX7_lay dX7_lay_1 kc_iconst_0,
  fun l0 l1 l2 l3 a0 a1 σ => dn_callS (e := (1, 179, 1190)) (as := [.int a0, .int a1]) (rest := []) eX7_lay dX7_lay_2 (by decide +kernel) (Or.inl rfl) (by decide +kernel) rfl (dcat_le rfl) (dlen_le rfl) rfl,
  fun l0 l1 l2 l3 x st σ => dn_if_ne eX7_lay dX7_lay_5 (by decide),
  fun l0 l1 l2 l3 st σ => dn_iconst eX7_lay dX7_lay_8 kc_iconst_m1,
  fun l0 l1 l2 l3 v σ => dn_ireturn eX7_lay dX7_lay_9 rfl,
  fun l1 l2 l3 x st σ => dn_aload_n eX7_lay dX7_lay_10 rfl,
  fun l0 l1 l2 l3 q st σ => dn_getfield (f := (6, 29, 800)) eX7_lay dX7_lay_11 (by decide +kernel),
  fun l0 l2 l3 x st σ => dn_iload_n eX7_lay dX7_lay_14 rfl,
  fun l0 l1 l2 l3 q i st σ => dn_iaload eX7_lay dX7_lay_15,
  fun l0 l1 l2 l3 st σ => dn_bipush eX7_lay dX7_lay_16 kc_bipush_m4,
  fun l0 l1 l2 l3 x y st σ => dn_icmp_ne eX7_lay dX7_lay_18 (by decide),
  fun l0 l1 l2 l3 st σ => dn_bipush eX7_lay dX7_lay_21 kc_bipush_m11,
  fun l0 l1 l2 l3 v σ => dn_ireturn eX7_lay dX7_lay_23 rfl,
  fun l0 l1 l3 x st σ => dn_iload_n eX7_lay dX7_lay_24 rfl,
  fun l0 l1 l2 l3 x st σ => dn_i2l eX7_lay dX7_lay_25,
  fun l0 l1 l2 l3 st σ => dn_lconst eX7_lay dX7_lay_26 kc_lconst_0,
  fun l1 l2 l3 x st σ => dn_aload_n eX7_lay dX7_lay_27 rfl,
  fun l0 l1 l2 l3 q st σ => dn_getfield (f := (6, 30, 801)) eX7_lay dX7_lay_28 (by decide +kernel),
  fun l0 l2 l3 x st σ => dn_iload_n eX7_lay dX7_lay_31 rfl,
  fun l0 l1 l2 l3 q i st σ => dn_iaload eX7_lay dX7_lay_32,
  fun l0 l1 l2 l3 st σ => dn_iconst eX7_lay dX7_lay_33 kc_iconst_1,
  fun l0 l1 l2 l3 x y st σ => dn_isub eX7_lay dX7_lay_34,
  fun l0 l1 l2 l3 x st σ => dn_i2l eX7_lay dX7_lay_35,
  fun l0 l1 l2 l3 a0 a1 a2 σ => dn_callS (e := (1, 102, 879)) (as := [.long a0, .long a1, .long a2]) (rest := []) eX7_lay dX7_lay_36 (by decide +kernel) (Or.inl rfl) (by decide +kernel) rfl (dcat_le rfl) (dlen_le rfl) rfl,
  fun l0 l1 l2 l3 x st σ => dn_if_ne eX7_lay dX7_lay_39 (by decide),
  fun l0 l1 l2 l3 st σ => dn_bipush eX7_lay dX7_lay_42 kc_bipush_m12,
  fun l0 l1 l2 l3 v σ => dn_ireturn eX7_lay dX7_lay_44 rfl,
  fun l1 l2 l3 x st σ => dn_aload_n eX7_lay dX7_lay_45 rfl,
  fun l0 l1 l2 l3 q st σ => dn_getfield (f := (6, 31, 802)) eX7_lay dX7_lay_46 (by decide +kernel),
  fun l0 l1 l2 l3 st σ => dn_bipush eX7_lay dX7_lay_49 kc_bipush_40,
  fun l0 l2 l3 x st σ => dn_iload_n eX7_lay dX7_lay_51 rfl,
  fun l0 l1 l2 l3 x y st σ => dn_imul eX7_lay dX7_lay_52,
  fun l0 l1 l3 x st σ => dn_iload_n eX7_lay dX7_lay_53 rfl,
  fun l0 l1 l2 l3 x y st σ => dn_iadd eX7_lay dX7_lay_54,
  fun l1 l2 l3 x st σ => dn_aload_n eX7_lay dX7_lay_55 rfl,
  fun l0 l1 l2 l3 q st σ => dn_getfield (f := (6, 29, 800)) eX7_lay dX7_lay_56 (by decide +kernel),
  fun l0 l2 l3 x st σ => dn_iload_n eX7_lay dX7_lay_59 rfl,
  fun l0 l1 l2 l3 q i st σ => dn_iaload eX7_lay dX7_lay_60,
  fun l0 l1 l2 l3 x st σ => dn_if_ne eX7_lay dX7_lay_61 (by decide)⟩
set_option maxRecDepth 20000 in
theorem SX7_lay_1 : (∀ (l0 l1 l2 : Option Value) (x : Int32) (st : List Value) (σ : dS), den mX7_lay 64 [l0, l1, l2, some (.int x)] st σ = den mX7_lay 65 [l0, l1, l2, some (.int x)] (.int x :: st) σ) ∧
  (∀ (l0 l1 l2 l3 : Option Value) (x : Int32) (st : List Value) (σ : dS), den mX7_lay 65 [l0, l1, l2, l3] (.int x :: st) σ = den mX7_lay 66 [l0, l1, l2, l3] (.int x.toInt8.toInt32 :: st) σ) ∧
  (∀ (l0 l1 l2 l3 : Option Value) (st : List Value) (σ : dS), den mX7_lay 66 [l0, l1, l2, l3] st σ = den mX7_lay 85 [l0, l1, l2, l3] st σ) ∧
  (∀ (l1 l2 l3 : Option Value) (x : Nat) (st : List Value) (σ : dS), den mX7_lay 69 [some (.ref x), l1, l2, l3] st σ = den mX7_lay 70 [some (.ref x), l1, l2, l3] (.ref x :: st) σ) ∧
  (∀ (l0 l1 l2 l3 : Option Value) (q : Nat) (st : List Value) (σ : dS), den mX7_lay 70 [l0, l1, l2, l3] (.ref q :: st) σ = (dget σ q 6 29).bind fun v => den mX7_lay 73 [l0, l1, l2, l3] (v :: st) σ) ∧
  (∀ (l0 l2 l3 : Option Value) (x : Int32) (st : List Value) (σ : dS), den mX7_lay 73 [l0, some (.int x), l2, l3] st σ = den mX7_lay 74 [l0, some (.int x), l2, l3] (.int x :: st) σ) ∧
  (∀ (l0 l1 l2 l3 : Option Value) (q : Nat) (i : Int32) (st : List Value) (σ : dS), den mX7_lay 74 [l0, l1, l2, l3] (.int i :: .ref q :: st) σ = if q ≤ dN then (dald σ q 0 i).bind (fun v => den mX7_lay 75 [l0, l1, l2, l3] (.int v :: st) σ) else none) ∧
  (∀ (l0 l1 l2 l3 : Option Value) (st : List Value) (σ : dS), den mX7_lay 75 [l0, l1, l2, l3] st σ = den mX7_lay 76 [l0, l1, l2, l3] (.int (nI 1) :: st) σ) ∧
  (∀ (l0 l1 l2 l3 : Option Value) (x y : Int32) (st : List Value) (σ : dS), den mX7_lay 76 [l0, l1, l2, l3] (.int y :: .int x :: st) σ = if x = y then den mX7_lay 79 [l0, l1, l2, l3] st σ else den mX7_lay 84 [l0, l1, l2, l3] st σ) ∧
  (∀ (l0 l1 l2 : Option Value) (x : Int32) (st : List Value) (σ : dS), den mX7_lay 79 [l0, l1, l2, some (.int x)] st σ = den mX7_lay 80 [l0, l1, l2, some (.int x)] (.int x :: st) σ) ∧
  (∀ (l0 l1 l2 l3 : Option Value) (x : Int32) (st : List Value) (σ : dS), den mX7_lay 80 [l0, l1, l2, l3] (.int x :: st) σ = den mX7_lay 81 [l0, l1, l2, l3] (.int x.toInt16.toInt32 :: st) σ) ∧
  (∀ (l0 l1 l2 l3 : Option Value) (st : List Value) (σ : dS), den mX7_lay 81 [l0, l1, l2, l3] st σ = den mX7_lay 85 [l0, l1, l2, l3] st σ) ∧
  (∀ (l0 l1 l2 : Option Value) (x : Int32) (st : List Value) (σ : dS), den mX7_lay 84 [l0, l1, l2, some (.int x)] st σ = den mX7_lay 85 [l0, l1, l2, some (.int x)] (.int x :: st) σ) ∧
  (∀ (l0 l1 l2 l3 : Option Value) (q : Nat) (i x : Int32) (st : List Value) (σ : dS), den mX7_lay 85 [l0, l1, l2, l3] (.int x :: .int i :: .ref q :: st) σ = (dast σ q 0 i x).bind fun τ => den mX7_lay 86 [l0, l1, l2, l3] st τ) ∧
  (∀ (l0 l1 l2 l3 : Option Value) (st : List Value) (σ : dS), den mX7_lay 86 [l0, l1, l2, l3] st σ = den mX7_lay 87 [l0, l1, l2, l3] (.int (nI 1) :: st) σ) ∧
  (∀ (l0 l1 l2 l3 : Option Value) (v : Int32) (σ : dS), den mX7_lay 87 [l0, l1, l2, l3] [.int v] σ = some (some (.int v), σ)) :=
  ⟨fun l0 l1 l2 x st σ => dn_iload_n eX7_lay dX7_lay_64 rfl,
  fun l0 l1 l2 l3 x st σ => dn_i2b eX7_lay dX7_lay_65,
  fun l0 l1 l2 l3 st σ => dn_goto eX7_lay dX7_lay_66 (by decide),
  fun l1 l2 l3 x st σ => dn_aload_n eX7_lay dX7_lay_69 rfl,
  fun l0 l1 l2 l3 q st σ => dn_getfield (f := (6, 29, 800)) eX7_lay dX7_lay_70 (by decide +kernel),
  fun l0 l2 l3 x st σ => dn_iload_n eX7_lay dX7_lay_73 rfl,
  fun l0 l1 l2 l3 q i st σ => dn_iaload eX7_lay dX7_lay_74,
  fun l0 l1 l2 l3 st σ => dn_iconst eX7_lay dX7_lay_75 kc_iconst_1,
  fun l0 l1 l2 l3 x y st σ => dn_icmp_ne eX7_lay dX7_lay_76 (by decide),
  fun l0 l1 l2 x st σ => dn_iload_n eX7_lay dX7_lay_79 rfl,
  fun l0 l1 l2 l3 x st σ => dn_i2s eX7_lay dX7_lay_80,
  fun l0 l1 l2 l3 st σ => dn_goto eX7_lay dX7_lay_81 (by decide),
  fun l0 l1 l2 x st σ => dn_iload_n eX7_lay dX7_lay_84 rfl,
  fun l0 l1 l2 l3 q i x st σ => dn_iastore eX7_lay dX7_lay_85,
  fun l0 l1 l2 l3 st σ => dn_iconst eX7_lay dX7_lay_86 kc_iconst_1,
  fun l0 l1 l2 l3 v σ => dn_ireturn eX7_lay dX7_lay_87 rfl⟩
theorem CX7_read (a0 : Nat) (a1 : Int32) (a2 : Int32) (a3 : Int32) (a4 : Int32) (σ : dS) : dcall mX7_read [.ref a0, .int a1, .int a2, .int a3, .int a4] σ = den mX7_read 0 [some (.ref a0), some (.int a1), some (.int a2), some (.int a3), some (.int a4), none, none, none, none, none, none] [] σ := dcall_den (by decide) rfl
theorem hX7_read_26 (l0 l1 l2 l3 l4 l6 l7 l8 l9 l10 : Option Value) (x : Int32) (st : List Value) (σ : dS) : den mX7_read 26 [l0, l1, l2, l3, l4, some (.int x), l6, l7, l8, l9, l10] st σ = den mX7_read 28 [l0, l1, l2, l3, l4, some (.int x), l6, l7, l8, l9, l10] (.int x :: st) σ := dn_iload eX7_read dX7_read_26 rfl
theorem hX7_read_63 (l0 l1 l2 l3 l4 l5 l6 l8 l9 l10 : Option Value) (x : Int32) (st : List Value) (σ : dS) : den mX7_read 63 [l0, l1, l2, l3, l4, l5, l6, some (.int x), l8, l9, l10] st σ = den mX7_read 65 [l0, l1, l2, l3, l4, l5, l6, some (.int x), l8, l9, l10] (.int x :: st) σ := dn_iload eX7_read dX7_read_63 rfl
theorem hX7_read_78 (l0 l1 l2 l3 l4 l5 l6 l7 l9 l10 : Option Value) (x : Int32) (st : List Value) (σ : dS) : den mX7_read 78 [l0, l1, l2, l3, l4, l5, l6, l7, some (.int x), l9, l10] st σ = den mX7_read 80 [l0, l1, l2, l3, l4, l5, l6, l7, some (.int x), l9, l10] (.int x :: st) σ := dn_iload eX7_read dX7_read_78 rfl
theorem rX7_read_209 (l0 l1 l2 l3 l4 l5 l6 l7 l8 l9 l10 : Option Value) (a0 : Int32) (a1 : Int32) (a2 : Int32) (q : Nat) (σ : dS) : den mX7_read 209 [l0, l1, l2, l3, l4, l5, l6, l7, l8, l9, l10] [.int a2, .int a1, .int a0, .ref q] σ = if disO σ q 6 = true then ((dcall mX7_set [.ref q, .int a0, .int a1, .int a2] σ).bind fun r => den mX7_read 212 [l0, l1, l2, l3, l4, l5, l6, l7, l8, l9, l10] (r.1.toList ++ []) r.2) else none := by
  by_cases h : disO σ q 6 = true
  · rw [if_pos h]; exact dn_callV (e := (0, 175, 1202)) (as := [.int a0, .int a1, .int a2]) (rest := []) eX7_read dX7_read_209 (by decide +kernel) rfl (by decide +kernel) rfl (dcat_le rfl) (dlen_le rfl) rfl h
  · rw [if_neg h]; exact den_noV (e := (0, 175, 1202)) (as := [.int a0, .int a1, .int a2]) (rest := []) eX7_read dX7_read_209 (by decide +kernel) rfl rfl rfl h
theorem hX7_read_218 (l0 l1 l2 l3 l4 l5 l6 l7 l8 l10 : Option Value) (x : Int32) (st : List Value) (σ : dS) : den mX7_read 218 [l0, l1, l2, l3, l4, l5, l6, l7, l8, some (.int x), l10] st σ = den mX7_read 220 [l0, l1, l2, l3, l4, l5, l6, l7, l8, some (.int x), l10] (.int x :: st) σ := dn_iload eX7_read dX7_read_218 rfl
set_option maxRecDepth 20000 in
theorem SX7_read_0 : (∀ (l0 l2 l3 l4 l5 l6 l7 l8 l9 l10 : Option Value) (x : Int32) (st : List Value) (σ : dS), den mX7_read 0 [l0, some (.int x), l2, l3, l4, l5, l6, l7, l8, l9, l10] st σ = den mX7_read 1 [l0, some (.int x), l2, l3, l4, l5, l6, l7, l8, l9, l10] (.int x :: st) σ) ∧
  (∀ (l0 l1 l3 l4 l5 l6 l7 l8 l9 l10 : Option Value) (x : Int32) (st : List Value) (σ : dS), den mX7_read 1 [l0, l1, some (.int x), l3, l4, l5, l6, l7, l8, l9, l10] st σ = den mX7_read 2 [l0, l1, some (.int x), l3, l4, l5, l6, l7, l8, l9, l10] (.int x :: st) σ) ∧
  (∀ (l0 l1 l2 l3 l4 l5 l6 l7 l8 l9 l10 : Option Value) (a0 : Int32) (a1 : Int32) (σ : dS), den mX7_read 2 [l0, l1, l2, l3, l4, l5, l6, l7, l8, l9, l10] [.int a1, .int a0] σ = (dcall mX7_isSheet [.int a0, .int a1] σ).bind fun r => den mX7_read 5 [l0, l1, l2, l3, l4, l5, l6, l7, l8, l9, l10] (r.1.toList ++ []) r.2) ∧
  (∀ (l0 l1 l2 l3 l4 l5 l6 l7 l8 l9 l10 : Option Value) (x : Int32) (st : List Value) (σ : dS), den mX7_read 5 [l0, l1, l2, l3, l4, l5, l6, l7, l8, l9, l10] (.int x :: st) σ = if x = 0 then den mX7_read 21 [l0, l1, l2, l3, l4, l5, l6, l7, l8, l9, l10] st σ else den mX7_read 8 [l0, l1, l2, l3, l4, l5, l6, l7, l8, l9, l10] st σ) ∧
  (∀ (l0 l1 l2 l3 l5 l6 l7 l8 l9 l10 : Option Value) (x : Int32) (st : List Value) (σ : dS), den mX7_read 8 [l0, l1, l2, l3, some (.int x), l5, l6, l7, l8, l9, l10] st σ = den mX7_read 10 [l0, l1, l2, l3, some (.int x), l5, l6, l7, l8, l9, l10] (.int x :: st) σ) ∧
  (∀ (l0 l1 l2 l3 l4 l5 l6 l7 l8 l9 l10 : Option Value) (x : Int32) (st : List Value) (σ : dS), den mX7_read 10 [l0, l1, l2, l3, l4, l5, l6, l7, l8, l9, l10] (.int x :: st) σ = den mX7_read 11 [l0, l1, l2, l3, l4, l5, l6, l7, l8, l9, l10] (.long x.toInt64 :: st) σ) ∧
  (∀ (l0 l1 l2 l3 l4 l5 l6 l7 l8 l9 l10 : Option Value) (st : List Value) (σ : dS), den mX7_read 11 [l0, l1, l2, l3, l4, l5, l6, l7, l8, l9, l10] st σ = den mX7_read 12 [l0, l1, l2, l3, l4, l5, l6, l7, l8, l9, l10] (.long (lN 0) :: st) σ) ∧
  (∀ (l0 l1 l2 l3 l4 l5 l6 l7 l8 l9 l10 : Option Value) (st : List Value) (σ : dS), den mX7_read 12 [l0, l1, l2, l3, l4, l5, l6, l7, l8, l9, l10] st σ = den mX7_read 15 [l0, l1, l2, l3, l4, l5, l6, l7, l8, l9, l10] (.long (lN 13) :: st) σ) ∧
  (∀ (l0 l1 l2 l3 l4 l5 l6 l7 l8 l9 l10 : Option Value) (a0 : Int64) (a1 : Int64) (a2 : Int64) (σ : dS), den mX7_read 15 [l0, l1, l2, l3, l4, l5, l6, l7, l8, l9, l10] [.long a2, .long a1, .long a0] σ = (dcall mX7_in [.long a0, .long a1, .long a2] σ).bind fun r => den mX7_read 18 [l0, l1, l2, l3, l4, l5, l6, l7, l8, l9, l10] (r.1.toList ++ []) r.2) ∧
  (∀ (l0 l1 l2 l3 l4 l5 l6 l7 l8 l9 l10 : Option Value) (x : Int32) (st : List Value) (σ : dS), den mX7_read 18 [l0, l1, l2, l3, l4, l5, l6, l7, l8, l9, l10] (.int x :: st) σ = if x = 0 then den mX7_read 21 [l0, l1, l2, l3, l4, l5, l6, l7, l8, l9, l10] st σ else den mX7_read 23 [l0, l1, l2, l3, l4, l5, l6, l7, l8, l9, l10] st σ) ∧
  (∀ (l0 l1 l2 l3 l4 l5 l6 l7 l8 l9 l10 : Option Value) (st : List Value) (σ : dS), den mX7_read 21 [l0, l1, l2, l3, l4, l5, l6, l7, l8, l9, l10] st σ = den mX7_read 22 [l0, l1, l2, l3, l4, l5, l6, l7, l8, l9, l10] (.int ((-1)) :: st) σ) ∧
  (∀ (l0 l1 l2 l3 l4 l5 l6 l7 l8 l9 l10 : Option Value) (v : Int32) (σ : dS), den mX7_read 22 [l0, l1, l2, l3, l4, l5, l6, l7, l8, l9, l10] [.int v] σ = some (some (.int v), σ)) ∧
  (∀ (l0 l1 l2 l3 l4 l5 l6 l7 l8 l9 l10 : Option Value) (st : List Value) (σ : dS), den mX7_read 23 [l0, l1, l2, l3, l4, l5, l6, l7, l8, l9, l10] st σ = den mX7_read 24 [l0, l1, l2, l3, l4, l5, l6, l7, l8, l9, l10] (.int (nI 0) :: st) σ) ∧
  (∀ (l0 l1 l2 l3 l5 l6 l7 l8 l9 l10 : Option Value) (x : Int32) (y : Int32) (st : List Value) (σ : dS), den mX7_read 24 [l0, l1, l2, l3, some (.int y), l5, l6, l7, l8, l9, l10] (.int x :: st) σ = den mX7_read 26 [l0, l1, l2, l3, some (.int y), some (.int x), l6, l7, l8, l9, l10] st σ) ∧
  (∀ (l0 l1 l2 l3 l4 l5 l6 l7 l8 l9 l10 : Option Value) (st : List Value) (σ : dS), den mX7_read 28 [l0, l1, l2, l3, l4, l5, l6, l7, l8, l9, l10] st σ = den mX7_read 31 [l0, l1, l2, l3, l4, l5, l6, l7, l8, l9, l10] (.int (nI 128) :: st) σ) ∧
  (∀ (l0 l1 l2 l3 l4 l5 l6 l7 l8 l9 l10 : Option Value) (x y : Int32) (st : List Value) (σ : dS), den mX7_read 31 [l0, l1, l2, l3, l4, l5, l6, l7, l8, l9, l10] (.int y :: .int x :: st) σ = if x < y then den mX7_read 34 [l0, l1, l2, l3, l4, l5, l6, l7, l8, l9, l10] st σ else den mX7_read 54 [l0, l1, l2, l3, l4, l5, l6, l7, l8, l9, l10] st σ) ∧
  (∀ (l1 l2 l3 l4 l5 l6 l7 l8 l9 l10 : Option Value) (x : Nat) (st : List Value) (σ : dS), den mX7_read 34 [some (.ref x), l1, l2, l3, l4, l5, l6, l7, l8, l9, l10] st σ = den mX7_read 35 [some (.ref x), l1, l2, l3, l4, l5, l6, l7, l8, l9, l10] (.ref x :: st) σ) ∧
  (∀ (l0 l1 l2 l3 l4 l5 l6 l7 l8 l9 l10 : Option Value) (q : Nat) (st : List Value) (σ : dS), den mX7_read 35 [l0, l1, l2, l3, l4, l5, l6, l7, l8, l9, l10] (.ref q :: st) σ = (dget σ q 6 33).bind fun v => den mX7_read 38 [l0, l1, l2, l3, l4, l5, l6, l7, l8, l9, l10] (v :: st) σ) ∧
  (∀ (l0 l1 l2 l3 l4 l6 l7 l8 l9 l10 : Option Value) (x : Int32) (st : List Value) (σ : dS), den mX7_read 38 [l0, l1, l2, l3, l4, some (.int x), l6, l7, l8, l9, l10] st σ = den mX7_read 40 [l0, l1, l2, l3, l4, some (.int x), l6, l7, l8, l9, l10] (.int x :: st) σ) ∧
  (∀ (l1 l2 l3 l4 l5 l6 l7 l8 l9 l10 : Option Value) (x : Nat) (st : List Value) (σ : dS), den mX7_read 40 [some (.ref x), l1, l2, l3, l4, l5, l6, l7, l8, l9, l10] st σ = den mX7_read 41 [some (.ref x), l1, l2, l3, l4, l5, l6, l7, l8, l9, l10] (.ref x :: st) σ) ∧
  (∀ (l0 l1 l2 l3 l4 l5 l6 l7 l8 l9 l10 : Option Value) (q : Nat) (st : List Value) (σ : dS), den mX7_read 41 [l0, l1, l2, l3, l4, l5, l6, l7, l8, l9, l10] (.ref q :: st) σ = (dget σ q 6 0).bind fun v => den mX7_read 44 [l0, l1, l2, l3, l4, l5, l6, l7, l8, l9, l10] (v :: st) σ) ∧
  (∀ (l0 l1 l2 l3 l4 l6 l7 l8 l9 l10 : Option Value) (x : Int32) (st : List Value) (σ : dS), den mX7_read 44 [l0, l1, l2, l3, l4, some (.int x), l6, l7, l8, l9, l10] st σ = den mX7_read 46 [l0, l1, l2, l3, l4, some (.int x), l6, l7, l8, l9, l10] (.int x :: st) σ) ∧
  (∀ (l0 l1 l2 l3 l4 l5 l6 l7 l8 l9 l10 : Option Value) (q : Nat) (i : Int32) (st : List Value) (σ : dS), den mX7_read 46 [l0, l1, l2, l3, l4, l5, l6, l7, l8, l9, l10] (.int i :: .ref q :: st) σ = if q ≤ dN then (dald σ q 0 i).bind (fun v => den mX7_read 47 [l0, l1, l2, l3, l4, l5, l6, l7, l8, l9, l10] (.int v :: st) σ) else none) ∧
  (∀ (l0 l1 l2 l3 l4 l5 l6 l7 l8 l9 l10 : Option Value) (q : Nat) (i x : Int32) (st : List Value) (σ : dS), den mX7_read 47 [l0, l1, l2, l3, l4, l5, l6, l7, l8, l9, l10] (.int x :: .int i :: .ref q :: st) σ = (dast σ q 0 i x).bind fun τ => den mX7_read 48 [l0, l1, l2, l3, l4, l5, l6, l7, l8, l9, l10] st τ) ∧
  (∀ (l0 l1 l2 l3 l6 l7 l8 l9 l10 : Option Value) (x : Int32) (y : Int32) (st : List Value) (σ : dS), den mX7_read 48 [l0, l1, l2, l3, some (.int y), some (.int x), l6, l7, l8, l9, l10] st σ = den mX7_read 51 [l0, l1, l2, l3, some (.int y), some (.int (x + nI 1)), l6, l7, l8, l9, l10] st σ) ∧
  (∀ (l0 l1 l2 l3 l4 l5 l6 l7 l8 l9 l10 : Option Value) (st : List Value) (σ : dS), den mX7_read 51 [l0, l1, l2, l3, l4, l5, l6, l7, l8, l9, l10] st σ = den mX7_read 26 [l0, l1, l2, l3, l4, l5, l6, l7, l8, l9, l10] st σ) ∧
  (∀ (l0 l1 l2 l3 l4 l5 l6 l7 l8 l9 l10 : Option Value) (st : List Value) (σ : dS), den mX7_read 54 [l0, l1, l2, l3, l4, l5, l6, l7, l8, l9, l10] st σ = den mX7_read 55 [l0, l1, l2, l3, l4, l5, l6, l7, l8, l9, l10] (.int (nI 0) :: st) σ) ∧
  (∀ (l0 l1 l2 l3 l5 l6 l7 l8 l9 l10 : Option Value) (x : Int32) (y : Int32) (st : List Value) (σ : dS), den mX7_read 55 [l0, l1, l2, l3, some (.int y), l5, l6, l7, l8, l9, l10] (.int x :: st) σ = den mX7_read 57 [l0, l1, l2, l3, some (.int y), some (.int x), l6, l7, l8, l9, l10] st σ) ∧
  (∀ (l0 l1 l2 l3 l4 l5 l6 l7 l8 l9 l10 : Option Value) (st : List Value) (σ : dS), den mX7_read 57 [l0, l1, l2, l3, l4, l5, l6, l7, l8, l9, l10] st σ = den mX7_read 58 [l0, l1, l2, l3, l4, l5, l6, l7, l8, l9, l10] (.int (nI 0) :: st) σ) ∧
  (∀ (l0 l1 l2 l3 l4 l6 l7 l8 l9 l10 : Option Value) (x : Int32) (y : Int32) (st : List Value) (σ : dS), den mX7_read 58 [l0, l1, l2, l3, l4, some (.int y), l6, l7, l8, l9, l10] (.int x :: st) σ = den mX7_read 60 [l0, l1, l2, l3, l4, some (.int y), some (.int x), l7, l8, l9, l10] st σ) ∧
  (∀ (l0 l1 l2 l3 l4 l5 l6 l7 l8 l9 l10 : Option Value) (st : List Value) (σ : dS), den mX7_read 60 [l0, l1, l2, l3, l4, l5, l6, l7, l8, l9, l10] st σ = den mX7_read 61 [l0, l1, l2, l3, l4, l5, l6, l7, l8, l9, l10] (.int (nI 0) :: st) σ) ∧
  (∀ (l0 l1 l2 l3 l4 l5 l7 l8 l9 l10 : Option Value) (x : Int32) (y : Int32) (st : List Value) (σ : dS), den mX7_read 61 [l0, l1, l2, l3, l4, l5, some (.int y), l7, l8, l9, l10] (.int x :: st) σ = den mX7_read 63 [l0, l1, l2, l3, l4, l5, some (.int y), some (.int x), l8, l9, l10] st σ) ∧
  (∀ (l0 l1 l2 l3 l5 l6 l7 l8 l9 l10 : Option Value) (x : Int32) (st : List Value) (σ : dS), den mX7_read 65 [l0, l1, l2, l3, some (.int x), l5, l6, l7, l8, l9, l10] st σ = den mX7_read 67 [l0, l1, l2, l3, some (.int x), l5, l6, l7, l8, l9, l10] (.int x :: st) σ) ∧
  (∀ (l0 l1 l2 l3 l4 l5 l6 l7 l8 l9 l10 : Option Value) (x y : Int32) (st : List Value) (σ : dS), den mX7_read 67 [l0, l1, l2, l3, l4, l5, l6, l7, l8, l9, l10] (.int y :: .int x :: st) σ = if x < y then den mX7_read 70 [l0, l1, l2, l3, l4, l5, l6, l7, l8, l9, l10] st σ else den mX7_read 261 [l0, l1, l2, l3, l4, l5, l6, l7, l8, l9, l10] st σ) ∧
  (∀ (l0 l1 l2 l3 l4 l6 l7 l8 l9 l10 : Option Value) (x : Int32) (st : List Value) (σ : dS), den mX7_read 70 [l0, l1, l2, l3, l4, some (.int x), l6, l7, l8, l9, l10] st σ = den mX7_read 72 [l0, l1, l2, l3, l4, some (.int x), l6, l7, l8, l9, l10] (.int x :: st) σ) ∧
  (∀ (l0 l1 l2 l3 l4 l5 l6 l7 l8 l9 l10 : Option Value) (x : Int32) (st : List Value) (σ : dS), den mX7_read 72 [l0, l1, l2, l3, l4, l5, l6, l7, l8, l9, l10] (.int x :: st) σ = if x = 0 then den mX7_read 75 [l0, l1, l2, l3, l4, l5, l6, l7, l8, l9, l10] st σ else den mX7_read 261 [l0, l1, l2, l3, l4, l5, l6, l7, l8, l9, l10] st σ) ∧
  (∀ (l0 l1 l2 l3 l4 l5 l6 l7 l8 l9 l10 : Option Value) (st : List Value) (σ : dS), den mX7_read 75 [l0, l1, l2, l3, l4, l5, l6, l7, l8, l9, l10] st σ = den mX7_read 76 [l0, l1, l2, l3, l4, l5, l6, l7, l8, l9, l10] (.int (nI 0) :: st) σ) ∧
  (∀ (l0 l1 l2 l3 l4 l5 l6 l8 l9 l10 : Option Value) (x : Int32) (y : Int32) (st : List Value) (σ : dS), den mX7_read 76 [l0, l1, l2, l3, l4, l5, l6, some (.int y), l8, l9, l10] (.int x :: st) σ = den mX7_read 78 [l0, l1, l2, l3, l4, l5, l6, some (.int y), some (.int x), l9, l10] st σ) ∧
  (∀ (l0 l1 l2 l3 l4 l5 l6 l7 l8 l9 l10 : Option Value) (st : List Value) (σ : dS), den mX7_read 80 [l0, l1, l2, l3, l4, l5, l6, l7, l8, l9, l10] st σ = den mX7_read 81 [l0, l1, l2, l3, l4, l5, l6, l7, l8, l9, l10] (.int (nI 3) :: st) σ) ∧
  (∀ (l0 l1 l2 l3 l4 l5 l6 l7 l8 l9 l10 : Option Value) (x y : Int32) (st : List Value) (σ : dS), den mX7_read 81 [l0, l1, l2, l3, l4, l5, l6, l7, l8, l9, l10] (.int y :: .int x :: st) σ = if x < y then den mX7_read 84 [l0, l1, l2, l3, l4, l5, l6, l7, l8, l9, l10] st σ else den mX7_read 165 [l0, l1, l2, l3, l4, l5, l6, l7, l8, l9, l10] st σ) :=
  ⟨fun l0 l2 l3 l4 l5 l6 l7 l8 l9 l10 x st σ => dn_iload_n eX7_read dX7_read_0 rfl,
  fun l0 l1 l3 l4 l5 l6 l7 l8 l9 l10 x st σ => dn_iload_n eX7_read dX7_read_1 rfl,
  fun l0 l1 l2 l3 l4 l5 l6 l7 l8 l9 l10 a0 a1 σ => dn_callS (e := (1, 179, 1190)) (as := [.int a0, .int a1]) (rest := []) eX7_read dX7_read_2 (by decide +kernel) (Or.inl rfl) (by decide +kernel) rfl (dcat_le rfl) (dlen_le rfl) rfl,
  fun l0 l1 l2 l3 l4 l5 l6 l7 l8 l9 l10 x st σ => dn_if_eq eX7_read dX7_read_5 (by decide),
  fun l0 l1 l2 l3 l5 l6 l7 l8 l9 l10 x st σ => dn_iload eX7_read dX7_read_8 rfl,
  fun l0 l1 l2 l3 l4 l5 l6 l7 l8 l9 l10 x st σ => dn_i2l eX7_read dX7_read_10,
  fun l0 l1 l2 l3 l4 l5 l6 l7 l8 l9 l10 st σ => dn_lconst eX7_read dX7_read_11 kc_lconst_0,
  fun l0 l1 l2 l3 l4 l5 l6 l7 l8 l9 l10 st σ => dn_ldc2_w (w := 13) (p := 1201) eX7_read dX7_read_12 (by decide +kernel) (by decide +kernel),
  fun l0 l1 l2 l3 l4 l5 l6 l7 l8 l9 l10 a0 a1 a2 σ => dn_callS (e := (1, 102, 879)) (as := [.long a0, .long a1, .long a2]) (rest := []) eX7_read dX7_read_15 (by decide +kernel) (Or.inl rfl) (by decide +kernel) rfl (dcat_le rfl) (dlen_le rfl) rfl,
  fun l0 l1 l2 l3 l4 l5 l6 l7 l8 l9 l10 x st σ => dn_if_ne eX7_read dX7_read_18 (by decide),
  fun l0 l1 l2 l3 l4 l5 l6 l7 l8 l9 l10 st σ => dn_iconst eX7_read dX7_read_21 kc_iconst_m1,
  fun l0 l1 l2 l3 l4 l5 l6 l7 l8 l9 l10 v σ => dn_ireturn eX7_read dX7_read_22 rfl,
  fun l0 l1 l2 l3 l4 l5 l6 l7 l8 l9 l10 st σ => dn_iconst eX7_read dX7_read_23 kc_iconst_0,
  fun l0 l1 l2 l3 l5 l6 l7 l8 l9 l10 x y st σ => dn_istore eX7_read dX7_read_24 rfl,
  fun l0 l1 l2 l3 l4 l5 l6 l7 l8 l9 l10 st σ => dn_sipush eX7_read dX7_read_28 kc_sipush_128,
  fun l0 l1 l2 l3 l4 l5 l6 l7 l8 l9 l10 x y st σ => dn_icmp_ge eX7_read dX7_read_31 (by decide),
  fun l1 l2 l3 l4 l5 l6 l7 l8 l9 l10 x st σ => dn_aload_n eX7_read dX7_read_34 rfl,
  fun l0 l1 l2 l3 l4 l5 l6 l7 l8 l9 l10 q st σ => dn_getfield (f := (6, 33, 804)) eX7_read dX7_read_35 (by decide +kernel),
  fun l0 l1 l2 l3 l4 l6 l7 l8 l9 l10 x st σ => dn_iload eX7_read dX7_read_38 rfl,
  fun l1 l2 l3 l4 l5 l6 l7 l8 l9 l10 x st σ => dn_aload_n eX7_read dX7_read_40 rfl,
  fun l0 l1 l2 l3 l4 l5 l6 l7 l8 l9 l10 q st σ => dn_getfield (f := (6, 0, 771)) eX7_read dX7_read_41 (by decide +kernel),
  fun l0 l1 l2 l3 l4 l6 l7 l8 l9 l10 x st σ => dn_iload eX7_read dX7_read_44 rfl,
  fun l0 l1 l2 l3 l4 l5 l6 l7 l8 l9 l10 q i st σ => dn_iaload eX7_read dX7_read_46,
  fun l0 l1 l2 l3 l4 l5 l6 l7 l8 l9 l10 q i x st σ => dn_iastore eX7_read dX7_read_47,
  fun l0 l1 l2 l3 l6 l7 l8 l9 l10 x y st σ => dn_iinc (v := nI 1) eX7_read dX7_read_48 rfl kc_iconst_1 rfl,
  fun l0 l1 l2 l3 l4 l5 l6 l7 l8 l9 l10 st σ => dn_goto eX7_read dX7_read_51 (by decide),
  fun l0 l1 l2 l3 l4 l5 l6 l7 l8 l9 l10 st σ => dn_iconst eX7_read dX7_read_54 kc_iconst_0,
  fun l0 l1 l2 l3 l5 l6 l7 l8 l9 l10 x y st σ => dn_istore eX7_read dX7_read_55 rfl,
  fun l0 l1 l2 l3 l4 l5 l6 l7 l8 l9 l10 st σ => dn_iconst eX7_read dX7_read_57 kc_iconst_0,
  fun l0 l1 l2 l3 l4 l6 l7 l8 l9 l10 x y st σ => dn_istore eX7_read dX7_read_58 rfl,
  fun l0 l1 l2 l3 l4 l5 l6 l7 l8 l9 l10 st σ => dn_iconst eX7_read dX7_read_60 kc_iconst_0,
  fun l0 l1 l2 l3 l4 l5 l7 l8 l9 l10 x y st σ => dn_istore eX7_read dX7_read_61 rfl,
  fun l0 l1 l2 l3 l5 l6 l7 l8 l9 l10 x st σ => dn_iload eX7_read dX7_read_65 rfl,
  fun l0 l1 l2 l3 l4 l5 l6 l7 l8 l9 l10 x y st σ => dn_icmp_ge eX7_read dX7_read_67 (by decide),
  fun l0 l1 l2 l3 l4 l6 l7 l8 l9 l10 x st σ => dn_iload eX7_read dX7_read_70 rfl,
  fun l0 l1 l2 l3 l4 l5 l6 l7 l8 l9 l10 x st σ => dn_if_ne eX7_read dX7_read_72 (by decide),
  fun l0 l1 l2 l3 l4 l5 l6 l7 l8 l9 l10 st σ => dn_iconst eX7_read dX7_read_75 kc_iconst_0,
  fun l0 l1 l2 l3 l4 l5 l6 l8 l9 l10 x y st σ => dn_istore eX7_read dX7_read_76 rfl,
  fun l0 l1 l2 l3 l4 l5 l6 l7 l8 l9 l10 st σ => dn_iconst eX7_read dX7_read_80 kc_iconst_3,
  fun l0 l1 l2 l3 l4 l5 l6 l7 l8 l9 l10 x y st σ => dn_icmp_ge eX7_read dX7_read_81 (by decide)⟩
set_option maxRecDepth 20000 in
theorem SX7_read_1 : (∀ (l0 l1 l2 l3 l4 l6 l7 l8 l9 l10 : Option Value) (x : Int32) (st : List Value) (σ : dS), den mX7_read 84 [l0, l1, l2, l3, l4, some (.int x), l6, l7, l8, l9, l10] st σ = den mX7_read 86 [l0, l1, l2, l3, l4, some (.int x), l6, l7, l8, l9, l10] (.int x :: st) σ) ∧
  (∀ (l0 l1 l2 l3 l4 l5 l6 l7 l8 l9 l10 : Option Value) (x : Int32) (st : List Value) (σ : dS), den mX7_read 86 [l0, l1, l2, l3, l4, l5, l6, l7, l8, l9, l10] (.int x :: st) σ = if x = 0 then den mX7_read 89 [l0, l1, l2, l3, l4, l5, l6, l7, l8, l9, l10] st σ else den mX7_read 165 [l0, l1, l2, l3, l4, l5, l6, l7, l8, l9, l10] st σ) ∧
  (∀ (l0 l1 l2 l4 l5 l6 l7 l8 l9 l10 : Option Value) (x : Int32) (st : List Value) (σ : dS), den mX7_read 89 [l0, l1, l2, some (.int x), l4, l5, l6, l7, l8, l9, l10] st σ = den mX7_read 90 [l0, l1, l2, some (.int x), l4, l5, l6, l7, l8, l9, l10] (.int x :: st) σ) ∧
  (∀ (l0 l1 l2 l3 l4 l5 l6 l7 l8 l9 l10 : Option Value) (x : Int32) (st : List Value) (σ : dS), den mX7_read 90 [l0, l1, l2, l3, l4, l5, l6, l7, l8, l9, l10] (.int x :: st) σ = den mX7_read 91 [l0, l1, l2, l3, l4, l5, l6, l7, l8, l9, l10] (.long x.toInt64 :: st) σ) ∧
  (∀ (l0 l1 l2 l3 l4 l5 l6 l7 l8 l9 l10 : Option Value) (st : List Value) (σ : dS), den mX7_read 91 [l0, l1, l2, l3, l4, l5, l6, l7, l8, l9, l10] st σ = den mX7_read 92 [l0, l1, l2, l3, l4, l5, l6, l7, l8, l9, l10] (.int (nI 3) :: st) σ) ∧
  (∀ (l0 l1 l2 l3 l4 l5 l6 l8 l9 l10 : Option Value) (x : Int32) (st : List Value) (σ : dS), den mX7_read 92 [l0, l1, l2, l3, l4, l5, l6, some (.int x), l8, l9, l10] st σ = den mX7_read 94 [l0, l1, l2, l3, l4, l5, l6, some (.int x), l8, l9, l10] (.int x :: st) σ) ∧
  (∀ (l0 l1 l2 l3 l4 l5 l6 l7 l8 l9 l10 : Option Value) (x y : Int32) (st : List Value) (σ : dS), den mX7_read 94 [l0, l1, l2, l3, l4, l5, l6, l7, l8, l9, l10] (.int y :: .int x :: st) σ = den mX7_read 95 [l0, l1, l2, l3, l4, l5, l6, l7, l8, l9, l10] (.int (x * y) :: st) σ) ∧
  (∀ (l0 l1 l2 l3 l4 l5 l6 l7 l8 l9 l10 : Option Value) (x : Int32) (st : List Value) (σ : dS), den mX7_read 95 [l0, l1, l2, l3, l4, l5, l6, l7, l8, l9, l10] (.int x :: st) σ = den mX7_read 96 [l0, l1, l2, l3, l4, l5, l6, l7, l8, l9, l10] (.long x.toInt64 :: st) σ) ∧
  (∀ (l0 l1 l2 l3 l4 l5 l6 l7 l8 l9 l10 : Option Value) (x y : Int64) (st : List Value) (σ : dS), den mX7_read 96 [l0, l1, l2, l3, l4, l5, l6, l7, l8, l9, l10] (.long y :: .long x :: st) σ = den mX7_read 97 [l0, l1, l2, l3, l4, l5, l6, l7, l8, l9, l10] (.long (x + y) :: st) σ) ∧
  (∀ (l0 l1 l2 l3 l4 l5 l6 l7 l9 l10 : Option Value) (x : Int32) (st : List Value) (σ : dS), den mX7_read 97 [l0, l1, l2, l3, l4, l5, l6, l7, some (.int x), l9, l10] st σ = den mX7_read 99 [l0, l1, l2, l3, l4, l5, l6, l7, some (.int x), l9, l10] (.int x :: st) σ) ∧
  (∀ (l0 l1 l2 l3 l4 l5 l6 l7 l8 l9 l10 : Option Value) (x : Int32) (st : List Value) (σ : dS), den mX7_read 99 [l0, l1, l2, l3, l4, l5, l6, l7, l8, l9, l10] (.int x :: st) σ = den mX7_read 100 [l0, l1, l2, l3, l4, l5, l6, l7, l8, l9, l10] (.long x.toInt64 :: st) σ) ∧
  (∀ (l0 l1 l2 l3 l4 l5 l6 l7 l8 l9 l10 : Option Value) (x y : Int64) (st : List Value) (σ : dS), den mX7_read 100 [l0, l1, l2, l3, l4, l5, l6, l7, l8, l9, l10] (.long y :: .long x :: st) σ = den mX7_read 101 [l0, l1, l2, l3, l4, l5, l6, l7, l8, l9, l10] (.long (x + y) :: st) σ) ∧
  (∀ (l0 l1 l2 l3 l4 l5 l6 l7 l9 l10 : Option Value) (x : Int64) (y : Int32) (st : List Value) (σ : dS), den mX7_read 101 [l0, l1, l2, l3, l4, l5, l6, l7, some (.int y), l9, l10] (.long x :: st) σ = den mX7_read 103 [l0, l1, l2, l3, l4, l5, l6, l7, some (.int y), some (.long x), none] st σ) ∧
  (∀ (l1 l2 l3 l4 l5 l6 l7 l8 l9 l10 : Option Value) (x : Nat) (st : List Value) (σ : dS), den mX7_read 103 [some (.ref x), l1, l2, l3, l4, l5, l6, l7, l8, l9, l10] st σ = den mX7_read 104 [some (.ref x), l1, l2, l3, l4, l5, l6, l7, l8, l9, l10] (.ref x :: st) σ) ∧
  (∀ (l0 l1 l2 l3 l4 l5 l6 l7 l8 l9 l10 : Option Value) (q : Nat) (st : List Value) (σ : dS), den mX7_read 104 [l0, l1, l2, l3, l4, l5, l6, l7, l8, l9, l10] (.ref q :: st) σ = (dget σ q 6 29).bind fun v => den mX7_read 107 [l0, l1, l2, l3, l4, l5, l6, l7, l8, l9, l10] (v :: st) σ) ∧
  (∀ (l0 l2 l3 l4 l5 l6 l7 l8 l9 l10 : Option Value) (x : Int32) (st : List Value) (σ : dS), den mX7_read 107 [l0, some (.int x), l2, l3, l4, l5, l6, l7, l8, l9, l10] st σ = den mX7_read 108 [l0, some (.int x), l2, l3, l4, l5, l6, l7, l8, l9, l10] (.int x :: st) σ) ∧
  (∀ (l0 l1 l2 l3 l4 l5 l6 l7 l8 l9 l10 : Option Value) (q : Nat) (i : Int32) (st : List Value) (σ : dS), den mX7_read 108 [l0, l1, l2, l3, l4, l5, l6, l7, l8, l9, l10] (.int i :: .ref q :: st) σ = if q ≤ dN then (dald σ q 0 i).bind (fun v => den mX7_read 109 [l0, l1, l2, l3, l4, l5, l6, l7, l8, l9, l10] (.int v :: st) σ) else none) ∧
  (∀ (l0 l1 l2 l3 l4 l5 l6 l7 l8 l9 l10 : Option Value) (st : List Value) (σ : dS), den mX7_read 109 [l0, l1, l2, l3, l4, l5, l6, l7, l8, l9, l10] st σ = den mX7_read 111 [l0, l1, l2, l3, l4, l5, l6, l7, l8, l9, l10] (.int ((-4)) :: st) σ) ∧
  (∀ (l0 l1 l2 l3 l4 l5 l6 l7 l8 l9 l10 : Option Value) (x y : Int32) (st : List Value) (σ : dS), den mX7_read 111 [l0, l1, l2, l3, l4, l5, l6, l7, l8, l9, l10] (.int y :: .int x :: st) σ = if x = y then den mX7_read 114 [l0, l1, l2, l3, l4, l5, l6, l7, l8, l9, l10] st σ else den mX7_read 118 [l0, l1, l2, l3, l4, l5, l6, l7, l8, l9, l10] st σ) ∧
  (∀ (l0 l1 l2 l3 l4 l5 l6 l7 l8 l9 l10 : Option Value) (st : List Value) (σ : dS), den mX7_read 114 [l0, l1, l2, l3, l4, l5, l6, l7, l8, l9, l10] st σ = den mX7_read 115 [l0, l1, l2, l3, l4, l5, l6, l7, l8, l9, l10] (.int (nI 1) :: st) σ) ∧
  (∀ (l0 l1 l2 l3 l4 l5 l6 l7 l8 l9 l10 : Option Value) (st : List Value) (σ : dS), den mX7_read 115 [l0, l1, l2, l3, l4, l5, l6, l7, l8, l9, l10] st σ = den mX7_read 157 [l0, l1, l2, l3, l4, l5, l6, l7, l8, l9, l10] st σ) ∧
  (∀ (l1 l2 l3 l4 l5 l6 l7 l8 l9 l10 : Option Value) (x : Nat) (st : List Value) (σ : dS), den mX7_read 118 [some (.ref x), l1, l2, l3, l4, l5, l6, l7, l8, l9, l10] st σ = den mX7_read 119 [some (.ref x), l1, l2, l3, l4, l5, l6, l7, l8, l9, l10] (.ref x :: st) σ) ∧
  (∀ (l0 l1 l2 l3 l4 l5 l6 l7 l8 l9 l10 : Option Value) (q : Nat) (st : List Value) (σ : dS), den mX7_read 119 [l0, l1, l2, l3, l4, l5, l6, l7, l8, l9, l10] (.ref q :: st) σ = (dget σ q 6 29).bind fun v => den mX7_read 122 [l0, l1, l2, l3, l4, l5, l6, l7, l8, l9, l10] (v :: st) σ) ∧
  (∀ (l0 l2 l3 l4 l5 l6 l7 l8 l9 l10 : Option Value) (x : Int32) (st : List Value) (σ : dS), den mX7_read 122 [l0, some (.int x), l2, l3, l4, l5, l6, l7, l8, l9, l10] st σ = den mX7_read 123 [l0, some (.int x), l2, l3, l4, l5, l6, l7, l8, l9, l10] (.int x :: st) σ) ∧
  (∀ (l0 l1 l2 l3 l4 l5 l6 l7 l8 l9 l10 : Option Value) (q : Nat) (i : Int32) (st : List Value) (σ : dS), den mX7_read 123 [l0, l1, l2, l3, l4, l5, l6, l7, l8, l9, l10] (.int i :: .ref q :: st) σ = if q ≤ dN then (dald σ q 0 i).bind (fun v => den mX7_read 124 [l0, l1, l2, l3, l4, l5, l6, l7, l8, l9, l10] (.int v :: st) σ) else none) ∧
  (∀ (l0 l1 l3 l4 l5 l6 l7 l8 l9 l10 : Option Value) (x : Int32) (st : List Value) (σ : dS), den mX7_read 124 [l0, l1, some (.int x), l3, l4, l5, l6, l7, l8, l9, l10] st σ = den mX7_read 125 [l0, l1, some (.int x), l3, l4, l5, l6, l7, l8, l9, l10] (.int x :: st) σ) ∧
  (∀ (l0 l1 l2 l3 l4 l5 l6 l7 l8 l9 l10 : Option Value) (x y : Int32) (st : List Value) (σ : dS), den mX7_read 125 [l0, l1, l2, l3, l4, l5, l6, l7, l8, l9, l10] (.int y :: .int x :: st) σ = if x = y then den mX7_read 132 [l0, l1, l2, l3, l4, l5, l6, l7, l8, l9, l10] st σ else den mX7_read 128 [l0, l1, l2, l3, l4, l5, l6, l7, l8, l9, l10] st σ) ∧
  (∀ (l0 l1 l2 l3 l4 l5 l6 l7 l8 l9 l10 : Option Value) (st : List Value) (σ : dS), den mX7_read 128 [l0, l1, l2, l3, l4, l5, l6, l7, l8, l9, l10] st σ = den mX7_read 129 [l0, l1, l2, l3, l4, l5, l6, l7, l8, l9, l10] (.int (nI 3) :: st) σ) ∧
  (∀ (l0 l1 l2 l3 l4 l5 l6 l7 l8 l9 l10 : Option Value) (st : List Value) (σ : dS), den mX7_read 129 [l0, l1, l2, l3, l4, l5, l6, l7, l8, l9, l10] st σ = den mX7_read 157 [l0, l1, l2, l3, l4, l5, l6, l7, l8, l9, l10] st σ) ∧
  (∀ (l0 l1 l2 l3 l4 l5 l6 l7 l8 l10 : Option Value) (x : Int64) (st : List Value) (σ : dS), den mX7_read 132 [l0, l1, l2, l3, l4, l5, l6, l7, l8, some (.long x), l10] st σ = den mX7_read 134 [l0, l1, l2, l3, l4, l5, l6, l7, l8, some (.long x), l10] (.long x :: st) σ) ∧
  (∀ (l0 l1 l2 l3 l4 l5 l6 l7 l8 l9 l10 : Option Value) (st : List Value) (σ : dS), den mX7_read 134 [l0, l1, l2, l3, l4, l5, l6, l7, l8, l9, l10] st σ = den mX7_read 135 [l0, l1, l2, l3, l4, l5, l6, l7, l8, l9, l10] (.long (lN 0) :: st) σ) ∧
  (∀ (l0 l1 l2 l3 l4 l5 l6 l7 l8 l9 l10 : Option Value) (x y : Int64) (st : List Value) (σ : dS), den mX7_read 135 [l0, l1, l2, l3, l4, l5, l6, l7, l8, l9, l10] (.long y :: .long x :: st) σ = den mX7_read 136 [l0, l1, l2, l3, l4, l5, l6, l7, l8, l9, l10] (.int (lg_cmp x y) :: st) σ) ∧
  (∀ (l0 l1 l2 l3 l4 l5 l6 l7 l8 l9 l10 : Option Value) (x : Int32) (st : List Value) (σ : dS), den mX7_read 136 [l0, l1, l2, l3, l4, l5, l6, l7, l8, l9, l10] (.int x :: st) σ = if x < 0 then den mX7_read 152 [l0, l1, l2, l3, l4, l5, l6, l7, l8, l9, l10] st σ else den mX7_read 139 [l0, l1, l2, l3, l4, l5, l6, l7, l8, l9, l10] st σ) ∧
  (∀ (l0 l1 l2 l3 l4 l5 l6 l7 l8 l10 : Option Value) (x : Int64) (st : List Value) (σ : dS), den mX7_read 139 [l0, l1, l2, l3, l4, l5, l6, l7, l8, some (.long x), l10] st σ = den mX7_read 141 [l0, l1, l2, l3, l4, l5, l6, l7, l8, some (.long x), l10] (.long x :: st) σ) ∧
  (∀ (l1 l2 l3 l4 l5 l6 l7 l8 l9 l10 : Option Value) (x : Nat) (st : List Value) (σ : dS), den mX7_read 141 [some (.ref x), l1, l2, l3, l4, l5, l6, l7, l8, l9, l10] st σ = den mX7_read 142 [some (.ref x), l1, l2, l3, l4, l5, l6, l7, l8, l9, l10] (.ref x :: st) σ) ∧
  (∀ (l0 l1 l2 l3 l4 l5 l6 l7 l8 l9 l10 : Option Value) (q : Nat) (st : List Value) (σ : dS), den mX7_read 142 [l0, l1, l2, l3, l4, l5, l6, l7, l8, l9, l10] (.ref q :: st) σ = (dget σ q 6 30).bind fun v => den mX7_read 145 [l0, l1, l2, l3, l4, l5, l6, l7, l8, l9, l10] (v :: st) σ) ∧
  (∀ (l0 l2 l3 l4 l5 l6 l7 l8 l9 l10 : Option Value) (x : Int32) (st : List Value) (σ : dS), den mX7_read 145 [l0, some (.int x), l2, l3, l4, l5, l6, l7, l8, l9, l10] st σ = den mX7_read 146 [l0, some (.int x), l2, l3, l4, l5, l6, l7, l8, l9, l10] (.int x :: st) σ) ∧
  (∀ (l0 l1 l2 l3 l4 l5 l6 l7 l8 l9 l10 : Option Value) (q : Nat) (i : Int32) (st : List Value) (σ : dS), den mX7_read 146 [l0, l1, l2, l3, l4, l5, l6, l7, l8, l9, l10] (.int i :: .ref q :: st) σ = if q ≤ dN then (dald σ q 0 i).bind (fun v => den mX7_read 147 [l0, l1, l2, l3, l4, l5, l6, l7, l8, l9, l10] (.int v :: st) σ) else none) ∧
  (∀ (l0 l1 l2 l3 l4 l5 l6 l7 l8 l9 l10 : Option Value) (x : Int32) (st : List Value) (σ : dS), den mX7_read 147 [l0, l1, l2, l3, l4, l5, l6, l7, l8, l9, l10] (.int x :: st) σ = den mX7_read 148 [l0, l1, l2, l3, l4, l5, l6, l7, l8, l9, l10] (.long x.toInt64 :: st) σ) ∧
  (∀ (l0 l1 l2 l3 l4 l5 l6 l7 l8 l9 l10 : Option Value) (x y : Int64) (st : List Value) (σ : dS), den mX7_read 148 [l0, l1, l2, l3, l4, l5, l6, l7, l8, l9, l10] (.long y :: .long x :: st) σ = den mX7_read 149 [l0, l1, l2, l3, l4, l5, l6, l7, l8, l9, l10] (.int (lg_cmp x y) :: st) σ) :=
  ⟨fun l0 l1 l2 l3 l4 l6 l7 l8 l9 l10 x st σ => dn_iload eX7_read dX7_read_84 rfl,
  fun l0 l1 l2 l3 l4 l5 l6 l7 l8 l9 l10 x st σ => dn_if_ne eX7_read dX7_read_86 (by decide),
  fun l0 l1 l2 l4 l5 l6 l7 l8 l9 l10 x st σ => dn_iload_n eX7_read dX7_read_89 rfl,
  fun l0 l1 l2 l3 l4 l5 l6 l7 l8 l9 l10 x st σ => dn_i2l eX7_read dX7_read_90,
  fun l0 l1 l2 l3 l4 l5 l6 l7 l8 l9 l10 st σ => dn_iconst eX7_read dX7_read_91 kc_iconst_3,
  fun l0 l1 l2 l3 l4 l5 l6 l8 l9 l10 x st σ => dn_iload eX7_read dX7_read_92 rfl,
  fun l0 l1 l2 l3 l4 l5 l6 l7 l8 l9 l10 x y st σ => dn_imul eX7_read dX7_read_94,
  fun l0 l1 l2 l3 l4 l5 l6 l7 l8 l9 l10 x st σ => dn_i2l eX7_read dX7_read_95,
  fun l0 l1 l2 l3 l4 l5 l6 l7 l8 l9 l10 x y st σ => dn_ladd eX7_read dX7_read_96,
  fun l0 l1 l2 l3 l4 l5 l6 l7 l9 l10 x st σ => dn_iload eX7_read dX7_read_97 rfl,
  fun l0 l1 l2 l3 l4 l5 l6 l7 l8 l9 l10 x st σ => dn_i2l eX7_read dX7_read_99,
  fun l0 l1 l2 l3 l4 l5 l6 l7 l8 l9 l10 x y st σ => dn_ladd eX7_read dX7_read_100,
  fun l0 l1 l2 l3 l4 l5 l6 l7 l9 l10 x y st σ => dn_lstore eX7_read dX7_read_101 rfl,
  fun l1 l2 l3 l4 l5 l6 l7 l8 l9 l10 x st σ => dn_aload_n eX7_read dX7_read_103 rfl,
  fun l0 l1 l2 l3 l4 l5 l6 l7 l8 l9 l10 q st σ => dn_getfield (f := (6, 29, 800)) eX7_read dX7_read_104 (by decide +kernel),
  fun l0 l2 l3 l4 l5 l6 l7 l8 l9 l10 x st σ => dn_iload_n eX7_read dX7_read_107 rfl,
  fun l0 l1 l2 l3 l4 l5 l6 l7 l8 l9 l10 q i st σ => dn_iaload eX7_read dX7_read_108,
  fun l0 l1 l2 l3 l4 l5 l6 l7 l8 l9 l10 st σ => dn_bipush eX7_read dX7_read_109 kc_bipush_m4,
  fun l0 l1 l2 l3 l4 l5 l6 l7 l8 l9 l10 x y st σ => dn_icmp_ne eX7_read dX7_read_111 (by decide),
  fun l0 l1 l2 l3 l4 l5 l6 l7 l8 l9 l10 st σ => dn_iconst eX7_read dX7_read_114 kc_iconst_1,
  fun l0 l1 l2 l3 l4 l5 l6 l7 l8 l9 l10 st σ => dn_goto eX7_read dX7_read_115 (by decide),
  fun l1 l2 l3 l4 l5 l6 l7 l8 l9 l10 x st σ => dn_aload_n eX7_read dX7_read_118 rfl,
  fun l0 l1 l2 l3 l4 l5 l6 l7 l8 l9 l10 q st σ => dn_getfield (f := (6, 29, 800)) eX7_read dX7_read_119 (by decide +kernel),
  fun l0 l2 l3 l4 l5 l6 l7 l8 l9 l10 x st σ => dn_iload_n eX7_read dX7_read_122 rfl,
  fun l0 l1 l2 l3 l4 l5 l6 l7 l8 l9 l10 q i st σ => dn_iaload eX7_read dX7_read_123,
  fun l0 l1 l3 l4 l5 l6 l7 l8 l9 l10 x st σ => dn_iload_n eX7_read dX7_read_124 rfl,
  fun l0 l1 l2 l3 l4 l5 l6 l7 l8 l9 l10 x y st σ => dn_icmp_eq eX7_read dX7_read_125 (by decide),
  fun l0 l1 l2 l3 l4 l5 l6 l7 l8 l9 l10 st σ => dn_iconst eX7_read dX7_read_128 kc_iconst_3,
  fun l0 l1 l2 l3 l4 l5 l6 l7 l8 l9 l10 st σ => dn_goto eX7_read dX7_read_129 (by decide),
  fun l0 l1 l2 l3 l4 l5 l6 l7 l8 l10 x st σ => dn_lload eX7_read dX7_read_132 rfl,
  fun l0 l1 l2 l3 l4 l5 l6 l7 l8 l9 l10 st σ => dn_lconst eX7_read dX7_read_134 kc_lconst_0,
  fun l0 l1 l2 l3 l4 l5 l6 l7 l8 l9 l10 x y st σ => dn_lcmp eX7_read dX7_read_135,
  fun l0 l1 l2 l3 l4 l5 l6 l7 l8 l9 l10 x st σ => dn_if_lt eX7_read dX7_read_136 (by decide),
  fun l0 l1 l2 l3 l4 l5 l6 l7 l8 l10 x st σ => dn_lload eX7_read dX7_read_139 rfl,
  fun l1 l2 l3 l4 l5 l6 l7 l8 l9 l10 x st σ => dn_aload_n eX7_read dX7_read_141 rfl,
  fun l0 l1 l2 l3 l4 l5 l6 l7 l8 l9 l10 q st σ => dn_getfield (f := (6, 30, 801)) eX7_read dX7_read_142 (by decide +kernel),
  fun l0 l2 l3 l4 l5 l6 l7 l8 l9 l10 x st σ => dn_iload_n eX7_read dX7_read_145 rfl,
  fun l0 l1 l2 l3 l4 l5 l6 l7 l8 l9 l10 q i st σ => dn_iaload eX7_read dX7_read_146,
  fun l0 l1 l2 l3 l4 l5 l6 l7 l8 l9 l10 x st σ => dn_i2l eX7_read dX7_read_147,
  fun l0 l1 l2 l3 l4 l5 l6 l7 l8 l9 l10 x y st σ => dn_lcmp eX7_read dX7_read_148⟩
set_option maxRecDepth 20000 in
theorem SX7_read_2 : (∀ (l0 l1 l2 l3 l4 l5 l6 l7 l8 l9 l10 : Option Value) (x : Int32) (st : List Value) (σ : dS), den mX7_read 149 [l0, l1, l2, l3, l4, l5, l6, l7, l8, l9, l10] (.int x :: st) σ = if x < 0 then den mX7_read 156 [l0, l1, l2, l3, l4, l5, l6, l7, l8, l9, l10] st σ else den mX7_read 152 [l0, l1, l2, l3, l4, l5, l6, l7, l8, l9, l10] st σ) ∧
  (∀ (l0 l1 l2 l3 l4 l5 l6 l7 l8 l9 l10 : Option Value) (st : List Value) (σ : dS), den mX7_read 152 [l0, l1, l2, l3, l4, l5, l6, l7, l8, l9, l10] st σ = den mX7_read 153 [l0, l1, l2, l3, l4, l5, l6, l7, l8, l9, l10] (.int (nI 2) :: st) σ) ∧
  (∀ (l0 l1 l2 l3 l4 l5 l6 l7 l8 l9 l10 : Option Value) (st : List Value) (σ : dS), den mX7_read 153 [l0, l1, l2, l3, l4, l5, l6, l7, l8, l9, l10] st σ = den mX7_read 157 [l0, l1, l2, l3, l4, l5, l6, l7, l8, l9, l10] st σ) ∧
  (∀ (l0 l1 l2 l3 l4 l5 l6 l7 l8 l9 l10 : Option Value) (st : List Value) (σ : dS), den mX7_read 156 [l0, l1, l2, l3, l4, l5, l6, l7, l8, l9, l10] st σ = den mX7_read 157 [l0, l1, l2, l3, l4, l5, l6, l7, l8, l9, l10] (.int (nI 0) :: st) σ) ∧
  (∀ (l0 l1 l2 l3 l5 l6 l7 l8 l9 l10 : Option Value) (x : Int32) (y : Int32) (st : List Value) (σ : dS), den mX7_read 157 [l0, l1, l2, l3, some (.int y), l5, l6, l7, l8, l9, l10] (.int x :: st) σ = den mX7_read 159 [l0, l1, l2, l3, some (.int y), some (.int x), l6, l7, l8, l9, l10] st σ) ∧
  (∀ (l0 l1 l2 l3 l4 l5 l6 l9 l10 : Option Value) (x : Int32) (y : Int32) (st : List Value) (σ : dS), den mX7_read 159 [l0, l1, l2, l3, l4, l5, l6, some (.int y), some (.int x), l9, l10] st σ = den mX7_read 162 [l0, l1, l2, l3, l4, l5, l6, some (.int y), some (.int (x + nI 1)), l9, l10] st σ) ∧
  (∀ (l0 l1 l2 l3 l4 l5 l6 l7 l8 l9 l10 : Option Value) (st : List Value) (σ : dS), den mX7_read 162 [l0, l1, l2, l3, l4, l5, l6, l7, l8, l9, l10] st σ = den mX7_read 78 [l0, l1, l2, l3, l4, l5, l6, l7, l8, l9, l10] st σ) ∧
  (∀ (l0 l1 l2 l3 l4 l6 l7 l8 l9 l10 : Option Value) (x : Int32) (st : List Value) (σ : dS), den mX7_read 165 [l0, l1, l2, l3, l4, some (.int x), l6, l7, l8, l9, l10] st σ = den mX7_read 167 [l0, l1, l2, l3, l4, some (.int x), l6, l7, l8, l9, l10] (.int x :: st) σ) ∧
  (∀ (l0 l1 l2 l3 l4 l5 l6 l7 l8 l9 l10 : Option Value) (x : Int32) (st : List Value) (σ : dS), den mX7_read 167 [l0, l1, l2, l3, l4, l5, l6, l7, l8, l9, l10] (.int x :: st) σ = if x = 0 then den mX7_read 170 [l0, l1, l2, l3, l4, l5, l6, l7, l8, l9, l10] st σ else den mX7_read 255 [l0, l1, l2, l3, l4, l5, l6, l7, l8, l9, l10] st σ) ∧
  (∀ (l0 l1 l2 l3 l4 l5 l6 l7 l8 l9 l10 : Option Value) (st : List Value) (σ : dS), den mX7_read 170 [l0, l1, l2, l3, l4, l5, l6, l7, l8, l9, l10] st σ = den mX7_read 172 [l0, l1, l2, l3, l4, l5, l6, l7, l8, l9, l10] (.int (nI 40) :: st) σ) ∧
  (∀ (l0 l2 l3 l4 l5 l6 l7 l8 l9 l10 : Option Value) (x : Int32) (st : List Value) (σ : dS), den mX7_read 172 [l0, some (.int x), l2, l3, l4, l5, l6, l7, l8, l9, l10] st σ = den mX7_read 173 [l0, some (.int x), l2, l3, l4, l5, l6, l7, l8, l9, l10] (.int x :: st) σ) ∧
  (∀ (l0 l1 l2 l3 l4 l5 l6 l7 l8 l9 l10 : Option Value) (x y : Int32) (st : List Value) (σ : dS), den mX7_read 173 [l0, l1, l2, l3, l4, l5, l6, l7, l8, l9, l10] (.int y :: .int x :: st) σ = den mX7_read 174 [l0, l1, l2, l3, l4, l5, l6, l7, l8, l9, l10] (.int (x * y) :: st) σ) ∧
  (∀ (l0 l1 l2 l4 l5 l6 l7 l8 l9 l10 : Option Value) (x : Int32) (st : List Value) (σ : dS), den mX7_read 174 [l0, l1, l2, some (.int x), l4, l5, l6, l7, l8, l9, l10] st σ = den mX7_read 175 [l0, l1, l2, some (.int x), l4, l5, l6, l7, l8, l9, l10] (.int x :: st) σ) ∧
  (∀ (l0 l1 l2 l3 l4 l5 l6 l7 l8 l9 l10 : Option Value) (x y : Int32) (st : List Value) (σ : dS), den mX7_read 175 [l0, l1, l2, l3, l4, l5, l6, l7, l8, l9, l10] (.int y :: .int x :: st) σ = den mX7_read 176 [l0, l1, l2, l3, l4, l5, l6, l7, l8, l9, l10] (.int (x + y) :: st) σ) ∧
  (∀ (l0 l1 l2 l3 l4 l5 l6 l7 l8 l9 l10 : Option Value) (st : List Value) (σ : dS), den mX7_read 176 [l0, l1, l2, l3, l4, l5, l6, l7, l8, l9, l10] st σ = den mX7_read 177 [l0, l1, l2, l3, l4, l5, l6, l7, l8, l9, l10] (.int (nI 3) :: st) σ) ∧
  (∀ (l0 l1 l2 l3 l4 l5 l6 l8 l9 l10 : Option Value) (x : Int32) (st : List Value) (σ : dS), den mX7_read 177 [l0, l1, l2, l3, l4, l5, l6, some (.int x), l8, l9, l10] st σ = den mX7_read 179 [l0, l1, l2, l3, l4, l5, l6, some (.int x), l8, l9, l10] (.int x :: st) σ) ∧
  (∀ (l0 l1 l2 l3 l4 l5 l6 l7 l8 l9 l10 : Option Value) (x y : Int32) (st : List Value) (σ : dS), den mX7_read 179 [l0, l1, l2, l3, l4, l5, l6, l7, l8, l9, l10] (.int y :: .int x :: st) σ = den mX7_read 180 [l0, l1, l2, l3, l4, l5, l6, l7, l8, l9, l10] (.int (x * y) :: st) σ) ∧
  (∀ (l0 l1 l2 l3 l4 l5 l6 l7 l8 l9 l10 : Option Value) (x y : Int32) (st : List Value) (σ : dS), den mX7_read 180 [l0, l1, l2, l3, l4, l5, l6, l7, l8, l9, l10] (.int y :: .int x :: st) σ = den mX7_read 181 [l0, l1, l2, l3, l4, l5, l6, l7, l8, l9, l10] (.int (x + y) :: st) σ) ∧
  (∀ (l0 l1 l2 l3 l4 l5 l6 l8 l9 l10 : Option Value) (x : Int32) (y : Int32) (st : List Value) (σ : dS), den mX7_read 181 [l0, l1, l2, l3, l4, l5, l6, some (.int y), l8, l9, l10] (.int x :: st) σ = den mX7_read 183 [l0, l1, l2, l3, l4, l5, l6, some (.int y), some (.int x), l9, l10] st σ) ∧
  (∀ (l1 l2 l3 l4 l5 l6 l7 l8 l9 l10 : Option Value) (x : Nat) (st : List Value) (σ : dS), den mX7_read 183 [some (.ref x), l1, l2, l3, l4, l5, l6, l7, l8, l9, l10] st σ = den mX7_read 184 [some (.ref x), l1, l2, l3, l4, l5, l6, l7, l8, l9, l10] (.ref x :: st) σ) ∧
  (∀ (l1 l2 l3 l4 l5 l6 l7 l8 l9 l10 : Option Value) (x : Nat) (st : List Value) (σ : dS), den mX7_read 184 [some (.ref x), l1, l2, l3, l4, l5, l6, l7, l8, l9, l10] st σ = den mX7_read 185 [some (.ref x), l1, l2, l3, l4, l5, l6, l7, l8, l9, l10] (.ref x :: st) σ) ∧
  (∀ (l0 l1 l2 l3 l4 l5 l6 l7 l8 l9 l10 : Option Value) (q : Nat) (st : List Value) (σ : dS), den mX7_read 185 [l0, l1, l2, l3, l4, l5, l6, l7, l8, l9, l10] (.ref q :: st) σ = (dget σ q 6 31).bind fun v => den mX7_read 188 [l0, l1, l2, l3, l4, l5, l6, l7, l8, l9, l10] (v :: st) σ) ∧
  (∀ (l0 l1 l2 l3 l4 l5 l6 l7 l9 l10 : Option Value) (x : Int32) (st : List Value) (σ : dS), den mX7_read 188 [l0, l1, l2, l3, l4, l5, l6, l7, some (.int x), l9, l10] st σ = den mX7_read 190 [l0, l1, l2, l3, l4, l5, l6, l7, some (.int x), l9, l10] (.int x :: st) σ) ∧
  (∀ (l0 l1 l2 l3 l4 l5 l6 l7 l8 l9 l10 : Option Value) (q : Nat) (i : Int32) (st : List Value) (σ : dS), den mX7_read 190 [l0, l1, l2, l3, l4, l5, l6, l7, l8, l9, l10] (.int i :: .ref q :: st) σ = if q ≤ dN then (dald σ q 0 i).bind (fun v => den mX7_read 191 [l0, l1, l2, l3, l4, l5, l6, l7, l8, l9, l10] (.int v :: st) σ) else none) ∧
  (∀ (l1 l2 l3 l4 l5 l6 l7 l8 l9 l10 : Option Value) (x : Nat) (st : List Value) (σ : dS), den mX7_read 191 [some (.ref x), l1, l2, l3, l4, l5, l6, l7, l8, l9, l10] st σ = den mX7_read 192 [some (.ref x), l1, l2, l3, l4, l5, l6, l7, l8, l9, l10] (.ref x :: st) σ) ∧
  (∀ (l0 l1 l2 l3 l4 l5 l6 l7 l8 l9 l10 : Option Value) (q : Nat) (st : List Value) (σ : dS), den mX7_read 192 [l0, l1, l2, l3, l4, l5, l6, l7, l8, l9, l10] (.ref q :: st) σ = (dget σ q 6 31).bind fun v => den mX7_read 195 [l0, l1, l2, l3, l4, l5, l6, l7, l8, l9, l10] (v :: st) σ) ∧
  (∀ (l0 l1 l2 l3 l4 l5 l6 l7 l9 l10 : Option Value) (x : Int32) (st : List Value) (σ : dS), den mX7_read 195 [l0, l1, l2, l3, l4, l5, l6, l7, some (.int x), l9, l10] st σ = den mX7_read 197 [l0, l1, l2, l3, l4, l5, l6, l7, some (.int x), l9, l10] (.int x :: st) σ) ∧
  (∀ (l0 l1 l2 l3 l4 l5 l6 l7 l8 l9 l10 : Option Value) (st : List Value) (σ : dS), den mX7_read 197 [l0, l1, l2, l3, l4, l5, l6, l7, l8, l9, l10] st σ = den mX7_read 198 [l0, l1, l2, l3, l4, l5, l6, l7, l8, l9, l10] (.int (nI 1) :: st) σ) ∧
  (∀ (l0 l1 l2 l3 l4 l5 l6 l7 l8 l9 l10 : Option Value) (x y : Int32) (st : List Value) (σ : dS), den mX7_read 198 [l0, l1, l2, l3, l4, l5, l6, l7, l8, l9, l10] (.int y :: .int x :: st) σ = den mX7_read 199 [l0, l1, l2, l3, l4, l5, l6, l7, l8, l9, l10] (.int (x + y) :: st) σ) ∧
  (∀ (l0 l1 l2 l3 l4 l5 l6 l7 l8 l9 l10 : Option Value) (q : Nat) (i : Int32) (st : List Value) (σ : dS), den mX7_read 199 [l0, l1, l2, l3, l4, l5, l6, l7, l8, l9, l10] (.int i :: .ref q :: st) σ = if q ≤ dN then (dald σ q 0 i).bind (fun v => den mX7_read 200 [l0, l1, l2, l3, l4, l5, l6, l7, l8, l9, l10] (.int v :: st) σ) else none) ∧
  (∀ (l1 l2 l3 l4 l5 l6 l7 l8 l9 l10 : Option Value) (x : Nat) (st : List Value) (σ : dS), den mX7_read 200 [some (.ref x), l1, l2, l3, l4, l5, l6, l7, l8, l9, l10] st σ = den mX7_read 201 [some (.ref x), l1, l2, l3, l4, l5, l6, l7, l8, l9, l10] (.ref x :: st) σ) ∧
  (∀ (l0 l1 l2 l3 l4 l5 l6 l7 l8 l9 l10 : Option Value) (q : Nat) (st : List Value) (σ : dS), den mX7_read 201 [l0, l1, l2, l3, l4, l5, l6, l7, l8, l9, l10] (.ref q :: st) σ = (dget σ q 6 31).bind fun v => den mX7_read 204 [l0, l1, l2, l3, l4, l5, l6, l7, l8, l9, l10] (v :: st) σ) ∧
  (∀ (l0 l1 l2 l3 l4 l5 l6 l7 l9 l10 : Option Value) (x : Int32) (st : List Value) (σ : dS), den mX7_read 204 [l0, l1, l2, l3, l4, l5, l6, l7, some (.int x), l9, l10] st σ = den mX7_read 206 [l0, l1, l2, l3, l4, l5, l6, l7, some (.int x), l9, l10] (.int x :: st) σ) ∧
  (∀ (l0 l1 l2 l3 l4 l5 l6 l7 l8 l9 l10 : Option Value) (st : List Value) (σ : dS), den mX7_read 206 [l0, l1, l2, l3, l4, l5, l6, l7, l8, l9, l10] st σ = den mX7_read 207 [l0, l1, l2, l3, l4, l5, l6, l7, l8, l9, l10] (.int (nI 2) :: st) σ) ∧
  (∀ (l0 l1 l2 l3 l4 l5 l6 l7 l8 l9 l10 : Option Value) (x y : Int32) (st : List Value) (σ : dS), den mX7_read 207 [l0, l1, l2, l3, l4, l5, l6, l7, l8, l9, l10] (.int y :: .int x :: st) σ = den mX7_read 208 [l0, l1, l2, l3, l4, l5, l6, l7, l8, l9, l10] (.int (x + y) :: st) σ) ∧
  (∀ (l0 l1 l2 l3 l4 l5 l6 l7 l8 l9 l10 : Option Value) (q : Nat) (i : Int32) (st : List Value) (σ : dS), den mX7_read 208 [l0, l1, l2, l3, l4, l5, l6, l7, l8, l9, l10] (.int i :: .ref q :: st) σ = if q ≤ dN then (dald σ q 0 i).bind (fun v => den mX7_read 209 [l0, l1, l2, l3, l4, l5, l6, l7, l8, l9, l10] (.int v :: st) σ) else none) ∧
  (∀ (l0 l1 l2 l3 l4 l5 l6 l7 l8 l9 l10 : Option Value) (a0 : Int32) (a1 : Int32) (a2 : Int32) (q : Nat) (σ : dS), den mX7_read 209 [l0, l1, l2, l3, l4, l5, l6, l7, l8, l9, l10] [.int a2, .int a1, .int a0, .ref q] σ = if disO σ q 6 = true then ((dcall mX7_set [.ref q, .int a0, .int a1, .int a2] σ).bind fun r => den mX7_read 212 [l0, l1, l2, l3, l4, l5, l6, l7, l8, l9, l10] (r.1.toList ++ []) r.2) else none) ∧
  (∀ (l0 l1 l2 l3 l4 l5 l6 l7 l8 l9 l10 : Option Value) (x : Int32) (st : List Value) (σ : dS), den mX7_read 212 [l0, l1, l2, l3, l4, l5, l6, l7, l8, l9, l10] (.int x :: st) σ = if x < 0 then den mX7_read 215 [l0, l1, l2, l3, l4, l5, l6, l7, l8, l9, l10] st σ else den mX7_read 252 [l0, l1, l2, l3, l4, l5, l6, l7, l8, l9, l10] st σ) ∧
  (∀ (l0 l1 l2 l3 l4 l5 l6 l7 l8 l9 l10 : Option Value) (st : List Value) (σ : dS), den mX7_read 215 [l0, l1, l2, l3, l4, l5, l6, l7, l8, l9, l10] st σ = den mX7_read 216 [l0, l1, l2, l3, l4, l5, l6, l7, l8, l9, l10] (.int (nI 0) :: st) σ) ∧
  (∀ (l0 l1 l2 l3 l4 l5 l6 l7 l9 l10 : Option Value) (x : Int32) (y : Int32) (st : List Value) (σ : dS), den mX7_read 216 [l0, l1, l2, l3, l4, l5, l6, l7, some (.int y), l9, l10] (.int x :: st) σ = den mX7_read 218 [l0, l1, l2, l3, l4, l5, l6, l7, some (.int y), some (.int x), l10] st σ) :=
  ⟨fun l0 l1 l2 l3 l4 l5 l6 l7 l8 l9 l10 x st σ => dn_if_lt eX7_read dX7_read_149 (by decide),
  fun l0 l1 l2 l3 l4 l5 l6 l7 l8 l9 l10 st σ => dn_iconst eX7_read dX7_read_152 kc_iconst_2,
  fun l0 l1 l2 l3 l4 l5 l6 l7 l8 l9 l10 st σ => dn_goto eX7_read dX7_read_153 (by decide),
  fun l0 l1 l2 l3 l4 l5 l6 l7 l8 l9 l10 st σ => dn_iconst eX7_read dX7_read_156 kc_iconst_0,
  fun l0 l1 l2 l3 l5 l6 l7 l8 l9 l10 x y st σ => dn_istore eX7_read dX7_read_157 rfl,
  fun l0 l1 l2 l3 l4 l5 l6 l9 l10 x y st σ => dn_iinc (v := nI 1) eX7_read dX7_read_159 rfl kc_iconst_1 rfl,
  fun l0 l1 l2 l3 l4 l5 l6 l7 l8 l9 l10 st σ => dn_goto eX7_read dX7_read_162 (by decide),
  fun l0 l1 l2 l3 l4 l6 l7 l8 l9 l10 x st σ => dn_iload eX7_read dX7_read_165 rfl,
  fun l0 l1 l2 l3 l4 l5 l6 l7 l8 l9 l10 x st σ => dn_if_ne eX7_read dX7_read_167 (by decide),
  fun l0 l1 l2 l3 l4 l5 l6 l7 l8 l9 l10 st σ => dn_bipush eX7_read dX7_read_170 kc_bipush_40,
  fun l0 l2 l3 l4 l5 l6 l7 l8 l9 l10 x st σ => dn_iload_n eX7_read dX7_read_172 rfl,
  fun l0 l1 l2 l3 l4 l5 l6 l7 l8 l9 l10 x y st σ => dn_imul eX7_read dX7_read_173,
  fun l0 l1 l2 l4 l5 l6 l7 l8 l9 l10 x st σ => dn_iload_n eX7_read dX7_read_174 rfl,
  fun l0 l1 l2 l3 l4 l5 l6 l7 l8 l9 l10 x y st σ => dn_iadd eX7_read dX7_read_175,
  fun l0 l1 l2 l3 l4 l5 l6 l7 l8 l9 l10 st σ => dn_iconst eX7_read dX7_read_176 kc_iconst_3,
  fun l0 l1 l2 l3 l4 l5 l6 l8 l9 l10 x st σ => dn_iload eX7_read dX7_read_177 rfl,
  fun l0 l1 l2 l3 l4 l5 l6 l7 l8 l9 l10 x y st σ => dn_imul eX7_read dX7_read_179,
  fun l0 l1 l2 l3 l4 l5 l6 l7 l8 l9 l10 x y st σ => dn_iadd eX7_read dX7_read_180,
  fun l0 l1 l2 l3 l4 l5 l6 l8 l9 l10 x y st σ => dn_istore eX7_read dX7_read_181 rfl,
  fun l1 l2 l3 l4 l5 l6 l7 l8 l9 l10 x st σ => dn_aload_n eX7_read dX7_read_183 rfl,
  fun l1 l2 l3 l4 l5 l6 l7 l8 l9 l10 x st σ => dn_aload_n eX7_read dX7_read_184 rfl,
  fun l0 l1 l2 l3 l4 l5 l6 l7 l8 l9 l10 q st σ => dn_getfield (f := (6, 31, 802)) eX7_read dX7_read_185 (by decide +kernel),
  fun l0 l1 l2 l3 l4 l5 l6 l7 l9 l10 x st σ => dn_iload eX7_read dX7_read_188 rfl,
  fun l0 l1 l2 l3 l4 l5 l6 l7 l8 l9 l10 q i st σ => dn_iaload eX7_read dX7_read_190,
  fun l1 l2 l3 l4 l5 l6 l7 l8 l9 l10 x st σ => dn_aload_n eX7_read dX7_read_191 rfl,
  fun l0 l1 l2 l3 l4 l5 l6 l7 l8 l9 l10 q st σ => dn_getfield (f := (6, 31, 802)) eX7_read dX7_read_192 (by decide +kernel),
  fun l0 l1 l2 l3 l4 l5 l6 l7 l9 l10 x st σ => dn_iload eX7_read dX7_read_195 rfl,
  fun l0 l1 l2 l3 l4 l5 l6 l7 l8 l9 l10 st σ => dn_iconst eX7_read dX7_read_197 kc_iconst_1,
  fun l0 l1 l2 l3 l4 l5 l6 l7 l8 l9 l10 x y st σ => dn_iadd eX7_read dX7_read_198,
  fun l0 l1 l2 l3 l4 l5 l6 l7 l8 l9 l10 q i st σ => dn_iaload eX7_read dX7_read_199,
  fun l1 l2 l3 l4 l5 l6 l7 l8 l9 l10 x st σ => dn_aload_n eX7_read dX7_read_200 rfl,
  fun l0 l1 l2 l3 l4 l5 l6 l7 l8 l9 l10 q st σ => dn_getfield (f := (6, 31, 802)) eX7_read dX7_read_201 (by decide +kernel),
  fun l0 l1 l2 l3 l4 l5 l6 l7 l9 l10 x st σ => dn_iload eX7_read dX7_read_204 rfl,
  fun l0 l1 l2 l3 l4 l5 l6 l7 l8 l9 l10 st σ => dn_iconst eX7_read dX7_read_206 kc_iconst_2,
  fun l0 l1 l2 l3 l4 l5 l6 l7 l8 l9 l10 x y st σ => dn_iadd eX7_read dX7_read_207,
  fun l0 l1 l2 l3 l4 l5 l6 l7 l8 l9 l10 q i st σ => dn_iaload eX7_read dX7_read_208,
  fun l0 l1 l2 l3 l4 l5 l6 l7 l8 l9 l10 a0 a1 a2 q σ => rX7_read_209 l0 l1 l2 l3 l4 l5 l6 l7 l8 l9 l10 a0 a1 a2 q σ,
  fun l0 l1 l2 l3 l4 l5 l6 l7 l8 l9 l10 x st σ => dn_if_ge eX7_read dX7_read_212 (by decide),
  fun l0 l1 l2 l3 l4 l5 l6 l7 l8 l9 l10 st σ => dn_iconst eX7_read dX7_read_215 kc_iconst_0,
  fun l0 l1 l2 l3 l4 l5 l6 l7 l9 l10 x y st σ => dn_istore eX7_read dX7_read_216 rfl⟩
set_option maxRecDepth 20000 in
theorem SX7_read_3 : (∀ (l0 l1 l2 l3 l4 l5 l6 l7 l8 l9 l10 : Option Value) (st : List Value) (σ : dS), den mX7_read 220 [l0, l1, l2, l3, l4, l5, l6, l7, l8, l9, l10] st σ = den mX7_read 223 [l0, l1, l2, l3, l4, l5, l6, l7, l8, l9, l10] (.int (nI 128) :: st) σ) ∧
  (∀ (l0 l1 l2 l3 l4 l5 l6 l7 l8 l9 l10 : Option Value) (x y : Int32) (st : List Value) (σ : dS), den mX7_read 223 [l0, l1, l2, l3, l4, l5, l6, l7, l8, l9, l10] (.int y :: .int x :: st) σ = if x < y then den mX7_read 226 [l0, l1, l2, l3, l4, l5, l6, l7, l8, l9, l10] st σ else den mX7_read 246 [l0, l1, l2, l3, l4, l5, l6, l7, l8, l9, l10] st σ) ∧
  (∀ (l1 l2 l3 l4 l5 l6 l7 l8 l9 l10 : Option Value) (x : Nat) (st : List Value) (σ : dS), den mX7_read 226 [some (.ref x), l1, l2, l3, l4, l5, l6, l7, l8, l9, l10] st σ = den mX7_read 227 [some (.ref x), l1, l2, l3, l4, l5, l6, l7, l8, l9, l10] (.ref x :: st) σ) ∧
  (∀ (l0 l1 l2 l3 l4 l5 l6 l7 l8 l9 l10 : Option Value) (q : Nat) (st : List Value) (σ : dS), den mX7_read 227 [l0, l1, l2, l3, l4, l5, l6, l7, l8, l9, l10] (.ref q :: st) σ = (dget σ q 6 0).bind fun v => den mX7_read 230 [l0, l1, l2, l3, l4, l5, l6, l7, l8, l9, l10] (v :: st) σ) ∧
  (∀ (l0 l1 l2 l3 l4 l5 l6 l7 l8 l10 : Option Value) (x : Int32) (st : List Value) (σ : dS), den mX7_read 230 [l0, l1, l2, l3, l4, l5, l6, l7, l8, some (.int x), l10] st σ = den mX7_read 232 [l0, l1, l2, l3, l4, l5, l6, l7, l8, some (.int x), l10] (.int x :: st) σ) ∧
  (∀ (l1 l2 l3 l4 l5 l6 l7 l8 l9 l10 : Option Value) (x : Nat) (st : List Value) (σ : dS), den mX7_read 232 [some (.ref x), l1, l2, l3, l4, l5, l6, l7, l8, l9, l10] st σ = den mX7_read 233 [some (.ref x), l1, l2, l3, l4, l5, l6, l7, l8, l9, l10] (.ref x :: st) σ) ∧
  (∀ (l0 l1 l2 l3 l4 l5 l6 l7 l8 l9 l10 : Option Value) (q : Nat) (st : List Value) (σ : dS), den mX7_read 233 [l0, l1, l2, l3, l4, l5, l6, l7, l8, l9, l10] (.ref q :: st) σ = (dget σ q 6 33).bind fun v => den mX7_read 236 [l0, l1, l2, l3, l4, l5, l6, l7, l8, l9, l10] (v :: st) σ) ∧
  (∀ (l0 l1 l2 l3 l4 l5 l6 l7 l8 l10 : Option Value) (x : Int32) (st : List Value) (σ : dS), den mX7_read 236 [l0, l1, l2, l3, l4, l5, l6, l7, l8, some (.int x), l10] st σ = den mX7_read 238 [l0, l1, l2, l3, l4, l5, l6, l7, l8, some (.int x), l10] (.int x :: st) σ) ∧
  (∀ (l0 l1 l2 l3 l4 l5 l6 l7 l8 l9 l10 : Option Value) (q : Nat) (i : Int32) (st : List Value) (σ : dS), den mX7_read 238 [l0, l1, l2, l3, l4, l5, l6, l7, l8, l9, l10] (.int i :: .ref q :: st) σ = if q ≤ dN then (dald σ q 0 i).bind (fun v => den mX7_read 239 [l0, l1, l2, l3, l4, l5, l6, l7, l8, l9, l10] (.int v :: st) σ) else none) ∧
  (∀ (l0 l1 l2 l3 l4 l5 l6 l7 l8 l9 l10 : Option Value) (q : Nat) (i x : Int32) (st : List Value) (σ : dS), den mX7_read 239 [l0, l1, l2, l3, l4, l5, l6, l7, l8, l9, l10] (.int x :: .int i :: .ref q :: st) σ = (dast σ q 0 i x).bind fun τ => den mX7_read 240 [l0, l1, l2, l3, l4, l5, l6, l7, l8, l9, l10] st τ) ∧
  (∀ (l0 l1 l2 l3 l4 l5 l6 l7 l10 : Option Value) (x : Int32) (y : Int32) (st : List Value) (σ : dS), den mX7_read 240 [l0, l1, l2, l3, l4, l5, l6, l7, some (.int y), some (.int x), l10] st σ = den mX7_read 243 [l0, l1, l2, l3, l4, l5, l6, l7, some (.int y), some (.int (x + nI 1)), l10] st σ) ∧
  (∀ (l0 l1 l2 l3 l4 l5 l6 l7 l8 l9 l10 : Option Value) (st : List Value) (σ : dS), den mX7_read 243 [l0, l1, l2, l3, l4, l5, l6, l7, l8, l9, l10] st σ = den mX7_read 218 [l0, l1, l2, l3, l4, l5, l6, l7, l8, l9, l10] st σ) ∧
  (∀ (l0 l1 l2 l3 l4 l5 l6 l7 l8 l9 l10 : Option Value) (st : List Value) (σ : dS), den mX7_read 246 [l0, l1, l2, l3, l4, l5, l6, l7, l8, l9, l10] st σ = den mX7_read 248 [l0, l1, l2, l3, l4, l5, l6, l7, l8, l9, l10] (.int ((-20)) :: st) σ) ∧
  (∀ (l0 l1 l2 l3 l4 l5 l6 l8 l9 l10 : Option Value) (x : Int32) (st : List Value) (σ : dS), den mX7_read 248 [l0, l1, l2, l3, l4, l5, l6, some (.int x), l8, l9, l10] st σ = den mX7_read 250 [l0, l1, l2, l3, l4, l5, l6, some (.int x), l8, l9, l10] (.int x :: st) σ) ∧
  (∀ (l0 l1 l2 l3 l4 l5 l6 l7 l8 l9 l10 : Option Value) (x y : Int32) (st : List Value) (σ : dS), den mX7_read 250 [l0, l1, l2, l3, l4, l5, l6, l7, l8, l9, l10] (.int y :: .int x :: st) σ = den mX7_read 251 [l0, l1, l2, l3, l4, l5, l6, l7, l8, l9, l10] (.int (x - y) :: st) σ) ∧
  (∀ (l0 l1 l2 l3 l4 l5 l6 l7 l8 l9 l10 : Option Value) (v : Int32) (σ : dS), den mX7_read 251 [l0, l1, l2, l3, l4, l5, l6, l7, l8, l9, l10] [.int v] σ = some (some (.int v), σ)) ∧
  (∀ (l0 l1 l2 l3 l4 l7 l8 l9 l10 : Option Value) (x : Int32) (y : Int32) (st : List Value) (σ : dS), den mX7_read 252 [l0, l1, l2, l3, l4, some (.int y), some (.int x), l7, l8, l9, l10] st σ = den mX7_read 255 [l0, l1, l2, l3, l4, some (.int y), some (.int (x + nI 1)), l7, l8, l9, l10] st σ) ∧
  (∀ (l0 l1 l2 l3 l4 l5 l8 l9 l10 : Option Value) (x : Int32) (y : Int32) (st : List Value) (σ : dS), den mX7_read 255 [l0, l1, l2, l3, l4, l5, some (.int y), some (.int x), l8, l9, l10] st σ = den mX7_read 258 [l0, l1, l2, l3, l4, l5, some (.int y), some (.int (x + nI 1)), l8, l9, l10] st σ) ∧
  (∀ (l0 l1 l2 l3 l4 l5 l6 l7 l8 l9 l10 : Option Value) (st : List Value) (σ : dS), den mX7_read 258 [l0, l1, l2, l3, l4, l5, l6, l7, l8, l9, l10] st σ = den mX7_read 63 [l0, l1, l2, l3, l4, l5, l6, l7, l8, l9, l10] st σ) ∧
  (∀ (l1 l2 l3 l4 l5 l6 l7 l8 l9 l10 : Option Value) (x : Nat) (st : List Value) (σ : dS), den mX7_read 261 [some (.ref x), l1, l2, l3, l4, l5, l6, l7, l8, l9, l10] st σ = den mX7_read 262 [some (.ref x), l1, l2, l3, l4, l5, l6, l7, l8, l9, l10] (.ref x :: st) σ) ∧
  (∀ (l0 l1 l2 l3 l4 l6 l7 l8 l9 l10 : Option Value) (x : Int32) (st : List Value) (σ : dS), den mX7_read 262 [l0, l1, l2, l3, l4, some (.int x), l6, l7, l8, l9, l10] st σ = den mX7_read 264 [l0, l1, l2, l3, l4, some (.int x), l6, l7, l8, l9, l10] (.int x :: st) σ) ∧
  (∀ (l0 l1 l2 l3 l4 l5 l6 l7 l8 l9 l10 : Option Value) (x : Int32) (q : Nat) (st : List Value) (σ : dS), den mX7_read 264 [l0, l1, l2, l3, l4, l5, l6, l7, l8, l9, l10] (.int x :: .ref q :: st) σ = (dput σ q 6 32 (.int x)).bind fun τ => den mX7_read 267 [l0, l1, l2, l3, l4, l5, l6, l7, l8, l9, l10] st τ) ∧
  (∀ (l0 l1 l2 l3 l4 l5 l7 l8 l9 l10 : Option Value) (x : Int32) (st : List Value) (σ : dS), den mX7_read 267 [l0, l1, l2, l3, l4, l5, some (.int x), l7, l8, l9, l10] st σ = den mX7_read 269 [l0, l1, l2, l3, l4, l5, some (.int x), l7, l8, l9, l10] (.int x :: st) σ) ∧
  (∀ (l0 l1 l2 l3 l4 l5 l6 l7 l8 l9 l10 : Option Value) (v : Int32) (σ : dS), den mX7_read 269 [l0, l1, l2, l3, l4, l5, l6, l7, l8, l9, l10] [.int v] σ = some (some (.int v), σ)) :=
  ⟨fun l0 l1 l2 l3 l4 l5 l6 l7 l8 l9 l10 st σ => dn_sipush eX7_read dX7_read_220 kc_sipush_128,
  fun l0 l1 l2 l3 l4 l5 l6 l7 l8 l9 l10 x y st σ => dn_icmp_ge eX7_read dX7_read_223 (by decide),
  fun l1 l2 l3 l4 l5 l6 l7 l8 l9 l10 x st σ => dn_aload_n eX7_read dX7_read_226 rfl,
  fun l0 l1 l2 l3 l4 l5 l6 l7 l8 l9 l10 q st σ => dn_getfield (f := (6, 0, 771)) eX7_read dX7_read_227 (by decide +kernel),
  fun l0 l1 l2 l3 l4 l5 l6 l7 l8 l10 x st σ => dn_iload eX7_read dX7_read_230 rfl,
  fun l1 l2 l3 l4 l5 l6 l7 l8 l9 l10 x st σ => dn_aload_n eX7_read dX7_read_232 rfl,
  fun l0 l1 l2 l3 l4 l5 l6 l7 l8 l9 l10 q st σ => dn_getfield (f := (6, 33, 804)) eX7_read dX7_read_233 (by decide +kernel),
  fun l0 l1 l2 l3 l4 l5 l6 l7 l8 l10 x st σ => dn_iload eX7_read dX7_read_236 rfl,
  fun l0 l1 l2 l3 l4 l5 l6 l7 l8 l9 l10 q i st σ => dn_iaload eX7_read dX7_read_238,
  fun l0 l1 l2 l3 l4 l5 l6 l7 l8 l9 l10 q i x st σ => dn_iastore eX7_read dX7_read_239,
  fun l0 l1 l2 l3 l4 l5 l6 l7 l10 x y st σ => dn_iinc (v := nI 1) eX7_read dX7_read_240 rfl kc_iconst_1 rfl,
  fun l0 l1 l2 l3 l4 l5 l6 l7 l8 l9 l10 st σ => dn_goto eX7_read dX7_read_243 (by decide),
  fun l0 l1 l2 l3 l4 l5 l6 l7 l8 l9 l10 st σ => dn_bipush eX7_read dX7_read_246 kc_bipush_m20,
  fun l0 l1 l2 l3 l4 l5 l6 l8 l9 l10 x st σ => dn_iload eX7_read dX7_read_248 rfl,
  fun l0 l1 l2 l3 l4 l5 l6 l7 l8 l9 l10 x y st σ => dn_isub eX7_read dX7_read_250,
  fun l0 l1 l2 l3 l4 l5 l6 l7 l8 l9 l10 v σ => dn_ireturn eX7_read dX7_read_251 rfl,
  fun l0 l1 l2 l3 l4 l7 l8 l9 l10 x y st σ => dn_iinc (v := nI 1) eX7_read dX7_read_252 rfl kc_iconst_1 rfl,
  fun l0 l1 l2 l3 l4 l5 l8 l9 l10 x y st σ => dn_iinc (v := nI 1) eX7_read dX7_read_255 rfl kc_iconst_1 rfl,
  fun l0 l1 l2 l3 l4 l5 l6 l7 l8 l9 l10 st σ => dn_goto eX7_read dX7_read_258 (by decide),
  fun l1 l2 l3 l4 l5 l6 l7 l8 l9 l10 x st σ => dn_aload_n eX7_read dX7_read_261 rfl,
  fun l0 l1 l2 l3 l4 l6 l7 l8 l9 l10 x st σ => dn_iload eX7_read dX7_read_262 rfl,
  fun l0 l1 l2 l3 l4 l5 l6 l7 l8 l9 l10 x q st σ => dn_putfield (f := (6, 32, 803)) (ty := .int) eX7_read dX7_read_264 (by decide +kernel) (by decide +kernel) rfl,
  fun l0 l1 l2 l3 l4 l5 l7 l8 l9 l10 x st σ => dn_iload eX7_read dX7_read_267 rfl,
  fun l0 l1 l2 l3 l4 l5 l6 l7 l8 l9 l10 v σ => dn_ireturn eX7_read dX7_read_269 rfl⟩
theorem CX7_torn (a0 : Nat) (σ : dS) : dcall mX7_torn [.ref a0] σ = den mX7_torn 0 [some (.ref a0)] [] σ := dcall_den (by decide) rfl
set_option maxRecDepth 20000 in
theorem SX7_torn : (∀ (x : Nat) (st : List Value) (σ : dS), den mX7_torn 0 [some (.ref x)] st σ = den mX7_torn 1 [some (.ref x)] (.ref x :: st) σ) ∧
  (∀ (l0 : Option Value) (q : Nat) (st : List Value) (σ : dS), den mX7_torn 1 [l0] (.ref q :: st) σ = (dget σ q 6 32).bind fun v => den mX7_torn 4 [l0] (v :: st) σ) ∧
  (∀ (l0 : Option Value) (v : Int32) (σ : dS), den mX7_torn 4 [l0] [.int v] σ = some (some (.int v), σ)) :=
  ⟨fun x st σ => dn_aload_n eX7_torn dX7_torn_0 rfl,
  fun l0 q st σ => dn_getfield (f := (6, 32, 803)) eX7_torn dX7_torn_1 (by decide +kernel),
  fun l0 v σ => dn_ireturn eX7_torn dX7_torn_4 rfl⟩
theorem CX7_sumOf (a0 : Nat) (a1 : Int32) (a2 : Int32) (σ : dS) : dcall mX7_sumOf [.ref a0, .int a1, .int a2] σ = den mX7_sumOf 0 [some (.ref a0), some (.int a1), some (.int a2), none, none] [] σ := dcall_den (by decide) rfl
theorem hX7_sumOf_5 (l0 l1 l2 l3 : Option Value) (x : Int32) (st : List Value) (σ : dS) : den mX7_sumOf 5 [l0, l1, l2, l3, some (.int x)] st σ = den mX7_sumOf 7 [l0, l1, l2, l3, some (.int x)] (.int x :: st) σ := dn_iload eX7_sumOf dX7_sumOf_5 rfl
theorem rX7_sumOf_21 (l0 l1 l2 l3 l4 : Option Value) (a0 : Int32) (a1 : Int32) (q : Nat) (σ : dS) : den mX7_sumOf 21 [l0, l1, l2, l3, l4] [.int a1, .int a0, .ref q] σ = if disO σ q 6 = true then ((dcall mX7_of [.ref q, .int a0, .int a1] σ).bind fun r => den mX7_sumOf 24 [l0, l1, l2, l3, l4] (r.1.toList ++ []) r.2) else none := by
  by_cases h : disO σ q 6 = true
  · rw [if_pos h]; exact dn_callV (e := (0, 120, 947)) (as := [.int a0, .int a1]) (rest := []) eX7_sumOf dX7_sumOf_21 (by decide +kernel) rfl (by decide +kernel) rfl (dcat_le rfl) (dlen_le rfl) rfl h
  · rw [if_neg h]; exact den_noV (e := (0, 120, 947)) (as := [.int a0, .int a1]) (rest := []) eX7_sumOf dX7_sumOf_21 (by decide +kernel) rfl rfl rfl h
theorem rX7_sumOf_41 (l0 l1 l2 l3 l4 : Option Value) (a0 : Int32) (a1 : Int32) (b0 : Int32) (q : Nat) (σ : dS) : den mX7_sumOf 41 [l0, l1, l2, l3, l4] [.int a1, .int a0, .ref q, .int b0] σ = if disO σ q 6 = true then ((dcall mX7_of [.ref q, .int a0, .int a1] σ).bind fun r => den mX7_sumOf 44 [l0, l1, l2, l3, l4] (r.1.toList ++ [.int b0]) r.2) else none := by
  by_cases h : disO σ q 6 = true
  · rw [if_pos h]; exact dn_callV (e := (0, 120, 947)) (as := [.int a0, .int a1]) (rest := [.int b0]) eX7_sumOf dX7_sumOf_41 (by decide +kernel) rfl (by decide +kernel) rfl (dcat_le rfl) (dlen_le rfl) rfl h
  · rw [if_neg h]; exact den_noV (e := (0, 120, 947)) (as := [.int a0, .int a1]) (rest := [.int b0]) eX7_sumOf dX7_sumOf_41 (by decide +kernel) rfl rfl rfl h
set_option maxRecDepth 20000 in
theorem SX7_sumOf : (∀ (l0 l1 l2 l3 l4 : Option Value) (st : List Value) (σ : dS), den mX7_sumOf 0 [l0, l1, l2, l3, l4] st σ = den mX7_sumOf 1 [l0, l1, l2, l3, l4] (.int (nI 0) :: st) σ) ∧
  (∀ (l0 l1 l3 l4 : Option Value) (x : Int32) (y : Int32) (st : List Value) (σ : dS), den mX7_sumOf 1 [l0, l1, some (.int y), l3, l4] (.int x :: st) σ = den mX7_sumOf 2 [l0, l1, some (.int y), some (.int x), l4] st σ) ∧
  (∀ (l0 l1 l2 l3 l4 : Option Value) (st : List Value) (σ : dS), den mX7_sumOf 2 [l0, l1, l2, l3, l4] st σ = den mX7_sumOf 3 [l0, l1, l2, l3, l4] (.int (nI 0) :: st) σ) ∧
  (∀ (l0 l1 l2 l4 : Option Value) (x : Int32) (y : Int32) (st : List Value) (σ : dS), den mX7_sumOf 3 [l0, l1, l2, some (.int y), l4] (.int x :: st) σ = den mX7_sumOf 5 [l0, l1, l2, some (.int y), some (.int x)] st σ) ∧
  (∀ (l1 l2 l3 l4 : Option Value) (x : Nat) (st : List Value) (σ : dS), den mX7_sumOf 7 [some (.ref x), l1, l2, l3, l4] st σ = den mX7_sumOf 8 [some (.ref x), l1, l2, l3, l4] (.ref x :: st) σ) ∧
  (∀ (l0 l1 l2 l3 l4 : Option Value) (q : Nat) (st : List Value) (σ : dS), den mX7_sumOf 8 [l0, l1, l2, l3, l4] (.ref q :: st) σ = (dget σ q 6 0).bind fun v => den mX7_sumOf 11 [l0, l1, l2, l3, l4] (v :: st) σ) ∧
  (∀ (l0 l1 l2 l3 l4 : Option Value) (st : List Value) (σ : dS), den mX7_sumOf 11 [l0, l1, l2, l3, l4] st σ = den mX7_sumOf 13 [l0, l1, l2, l3, l4] (.int (nI 120) :: st) σ) ∧
  (∀ (l0 l1 l2 l3 l4 : Option Value) (q : Nat) (i : Int32) (st : List Value) (σ : dS), den mX7_sumOf 13 [l0, l1, l2, l3, l4] (.int i :: .ref q :: st) σ = if q ≤ dN then (dald σ q 0 i).bind (fun v => den mX7_sumOf 14 [l0, l1, l2, l3, l4] (.int v :: st) σ) else none) ∧
  (∀ (l0 l1 l2 l3 l4 : Option Value) (x y : Int32) (st : List Value) (σ : dS), den mX7_sumOf 14 [l0, l1, l2, l3, l4] (.int y :: .int x :: st) σ = if x < y then den mX7_sumOf 17 [l0, l1, l2, l3, l4] st σ else den mX7_sumOf 52 [l0, l1, l2, l3, l4] st σ) ∧
  (∀ (l1 l2 l3 l4 : Option Value) (x : Nat) (st : List Value) (σ : dS), den mX7_sumOf 17 [some (.ref x), l1, l2, l3, l4] st σ = den mX7_sumOf 18 [some (.ref x), l1, l2, l3, l4] (.ref x :: st) σ) ∧
  (∀ (l0 l1 l2 l3 : Option Value) (x : Int32) (st : List Value) (σ : dS), den mX7_sumOf 18 [l0, l1, l2, l3, some (.int x)] st σ = den mX7_sumOf 20 [l0, l1, l2, l3, some (.int x)] (.int x :: st) σ) ∧
  (∀ (l0 l1 l2 l3 l4 : Option Value) (st : List Value) (σ : dS), den mX7_sumOf 20 [l0, l1, l2, l3, l4] st σ = den mX7_sumOf 21 [l0, l1, l2, l3, l4] (.int (nI 0) :: st) σ) ∧
  (∀ (l0 l1 l2 l3 l4 : Option Value) (a0 : Int32) (a1 : Int32) (q : Nat) (σ : dS), den mX7_sumOf 21 [l0, l1, l2, l3, l4] [.int a1, .int a0, .ref q] σ = if disO σ q 6 = true then ((dcall mX7_of [.ref q, .int a0, .int a1] σ).bind fun r => den mX7_sumOf 24 [l0, l1, l2, l3, l4] (r.1.toList ++ []) r.2) else none) ∧
  (∀ (l0 l2 l3 l4 : Option Value) (x : Int32) (st : List Value) (σ : dS), den mX7_sumOf 24 [l0, some (.int x), l2, l3, l4] st σ = den mX7_sumOf 25 [l0, some (.int x), l2, l3, l4] (.int x :: st) σ) ∧
  (∀ (l0 l1 l2 l3 l4 : Option Value) (x y : Int32) (st : List Value) (σ : dS), den mX7_sumOf 25 [l0, l1, l2, l3, l4] (.int y :: .int x :: st) σ = if x = y then den mX7_sumOf 28 [l0, l1, l2, l3, l4] st σ else den mX7_sumOf 46 [l0, l1, l2, l3, l4] st σ) ∧
  (∀ (l0 l1 l2 l4 : Option Value) (x : Int32) (st : List Value) (σ : dS), den mX7_sumOf 28 [l0, l1, l2, some (.int x), l4] st σ = den mX7_sumOf 29 [l0, l1, l2, some (.int x), l4] (.int x :: st) σ) ∧
  (∀ (l0 l1 l3 l4 : Option Value) (x : Int32) (st : List Value) (σ : dS), den mX7_sumOf 29 [l0, l1, some (.int x), l3, l4] st σ = den mX7_sumOf 30 [l0, l1, some (.int x), l3, l4] (.int x :: st) σ) ∧
  (∀ (l0 l1 l2 l3 l4 : Option Value) (x : Int32) (st : List Value) (σ : dS), den mX7_sumOf 30 [l0, l1, l2, l3, l4] (.int x :: st) σ = if x = 0 then den mX7_sumOf 37 [l0, l1, l2, l3, l4] st σ else den mX7_sumOf 33 [l0, l1, l2, l3, l4] st σ) ∧
  (∀ (l0 l1 l2 l3 l4 : Option Value) (st : List Value) (σ : dS), den mX7_sumOf 33 [l0, l1, l2, l3, l4] st σ = den mX7_sumOf 34 [l0, l1, l2, l3, l4] (.int (nI 1) :: st) σ) ∧
  (∀ (l0 l1 l2 l3 l4 : Option Value) (st : List Value) (σ : dS), den mX7_sumOf 34 [l0, l1, l2, l3, l4] st σ = den mX7_sumOf 44 [l0, l1, l2, l3, l4] st σ) ∧
  (∀ (l1 l2 l3 l4 : Option Value) (x : Nat) (st : List Value) (σ : dS), den mX7_sumOf 37 [some (.ref x), l1, l2, l3, l4] st σ = den mX7_sumOf 38 [some (.ref x), l1, l2, l3, l4] (.ref x :: st) σ) ∧
  (∀ (l0 l1 l2 l3 : Option Value) (x : Int32) (st : List Value) (σ : dS), den mX7_sumOf 38 [l0, l1, l2, l3, some (.int x)] st σ = den mX7_sumOf 40 [l0, l1, l2, l3, some (.int x)] (.int x :: st) σ) ∧
  (∀ (l0 l1 l2 l3 l4 : Option Value) (st : List Value) (σ : dS), den mX7_sumOf 40 [l0, l1, l2, l3, l4] st σ = den mX7_sumOf 41 [l0, l1, l2, l3, l4] (.int (nI 2) :: st) σ) ∧
  (∀ (l0 l1 l2 l3 l4 : Option Value) (a0 : Int32) (a1 : Int32) (b0 : Int32) (q : Nat) (σ : dS), den mX7_sumOf 41 [l0, l1, l2, l3, l4] [.int a1, .int a0, .ref q, .int b0] σ = if disO σ q 6 = true then ((dcall mX7_of [.ref q, .int a0, .int a1] σ).bind fun r => den mX7_sumOf 44 [l0, l1, l2, l3, l4] (r.1.toList ++ [.int b0]) r.2) else none) ∧
  (∀ (l0 l1 l2 l3 l4 : Option Value) (x y : Int32) (st : List Value) (σ : dS), den mX7_sumOf 44 [l0, l1, l2, l3, l4] (.int y :: .int x :: st) σ = den mX7_sumOf 45 [l0, l1, l2, l3, l4] (.int (x + y) :: st) σ) ∧
  (∀ (l0 l1 l3 l4 : Option Value) (x : Int32) (y : Int32) (st : List Value) (σ : dS), den mX7_sumOf 45 [l0, l1, some (.int y), l3, l4] (.int x :: st) σ = den mX7_sumOf 46 [l0, l1, some (.int y), some (.int x), l4] st σ) ∧
  (∀ (l0 l1 l2 : Option Value) (x : Int32) (y : Int32) (st : List Value) (σ : dS), den mX7_sumOf 46 [l0, l1, l2, some (.int y), some (.int x)] st σ = den mX7_sumOf 49 [l0, l1, l2, some (.int y), some (.int (x + nI 1))] st σ) ∧
  (∀ (l0 l1 l2 l3 l4 : Option Value) (st : List Value) (σ : dS), den mX7_sumOf 49 [l0, l1, l2, l3, l4] st σ = den mX7_sumOf 5 [l0, l1, l2, l3, l4] st σ) ∧
  (∀ (l0 l1 l2 l4 : Option Value) (x : Int32) (st : List Value) (σ : dS), den mX7_sumOf 52 [l0, l1, l2, some (.int x), l4] st σ = den mX7_sumOf 53 [l0, l1, l2, some (.int x), l4] (.int x :: st) σ) ∧
  (∀ (l0 l1 l2 l3 l4 : Option Value) (v : Int32) (σ : dS), den mX7_sumOf 53 [l0, l1, l2, l3, l4] [.int v] σ = some (some (.int v), σ)) :=
  ⟨fun l0 l1 l2 l3 l4 st σ => dn_iconst eX7_sumOf dX7_sumOf_0 kc_iconst_0,
  fun l0 l1 l3 l4 x y st σ => dn_istore_n eX7_sumOf dX7_sumOf_1 rfl,
  fun l0 l1 l2 l3 l4 st σ => dn_iconst eX7_sumOf dX7_sumOf_2 kc_iconst_0,
  fun l0 l1 l2 l4 x y st σ => dn_istore eX7_sumOf dX7_sumOf_3 rfl,
  fun l1 l2 l3 l4 x st σ => dn_aload_n eX7_sumOf dX7_sumOf_7 rfl,
  fun l0 l1 l2 l3 l4 q st σ => dn_getfield (f := (6, 0, 771)) eX7_sumOf dX7_sumOf_8 (by decide +kernel),
  fun l0 l1 l2 l3 l4 st σ => dn_bipush eX7_sumOf dX7_sumOf_11 kc_bipush_120,
  fun l0 l1 l2 l3 l4 q i st σ => dn_iaload eX7_sumOf dX7_sumOf_13,
  fun l0 l1 l2 l3 l4 x y st σ => dn_icmp_ge eX7_sumOf dX7_sumOf_14 (by decide),
  fun l1 l2 l3 l4 x st σ => dn_aload_n eX7_sumOf dX7_sumOf_17 rfl,
  fun l0 l1 l2 l3 x st σ => dn_iload eX7_sumOf dX7_sumOf_18 rfl,
  fun l0 l1 l2 l3 l4 st σ => dn_iconst eX7_sumOf dX7_sumOf_20 kc_iconst_0,
  fun l0 l1 l2 l3 l4 a0 a1 q σ => rX7_sumOf_21 l0 l1 l2 l3 l4 a0 a1 q σ,
  fun l0 l2 l3 l4 x st σ => dn_iload_n eX7_sumOf dX7_sumOf_24 rfl,
  fun l0 l1 l2 l3 l4 x y st σ => dn_icmp_ne eX7_sumOf dX7_sumOf_25 (by decide),
  fun l0 l1 l2 l4 x st σ => dn_iload_n eX7_sumOf dX7_sumOf_28 rfl,
  fun l0 l1 l3 l4 x st σ => dn_iload_n eX7_sumOf dX7_sumOf_29 rfl,
  fun l0 l1 l2 l3 l4 x st σ => dn_if_eq eX7_sumOf dX7_sumOf_30 (by decide),
  fun l0 l1 l2 l3 l4 st σ => dn_iconst eX7_sumOf dX7_sumOf_33 kc_iconst_1,
  fun l0 l1 l2 l3 l4 st σ => dn_goto eX7_sumOf dX7_sumOf_34 (by decide),
  fun l1 l2 l3 l4 x st σ => dn_aload_n eX7_sumOf dX7_sumOf_37 rfl,
  fun l0 l1 l2 l3 x st σ => dn_iload eX7_sumOf dX7_sumOf_38 rfl,
  fun l0 l1 l2 l3 l4 st σ => dn_iconst eX7_sumOf dX7_sumOf_40 kc_iconst_2,
  fun l0 l1 l2 l3 l4 a0 a1 b0 q σ => rX7_sumOf_41 l0 l1 l2 l3 l4 a0 a1 b0 q σ,
  fun l0 l1 l2 l3 l4 x y st σ => dn_iadd eX7_sumOf dX7_sumOf_44,
  fun l0 l1 l3 l4 x y st σ => dn_istore_n eX7_sumOf dX7_sumOf_45 rfl,
  fun l0 l1 l2 x y st σ => dn_iinc (v := nI 1) eX7_sumOf dX7_sumOf_46 rfl kc_iconst_1 rfl,
  fun l0 l1 l2 l3 l4 st σ => dn_goto eX7_sumOf dX7_sumOf_49 (by decide),
  fun l0 l1 l2 l4 x st σ => dn_iload_n eX7_sumOf dX7_sumOf_52 rfl,
  fun l0 l1 l2 l3 l4 v σ => dn_ireturn eX7_sumOf dX7_sumOf_53 rfl⟩
theorem CX7_count (a0 : Nat) (a1 : Int32) (σ : dS) : dcall mX7_count [.ref a0, .int a1] σ = den mX7_count 0 [some (.ref a0), some (.int a1)] [] σ := dcall_den (by decide) rfl
theorem rX7_count_1 (l0 l1 : Option Value) (x : Int32) (st : List Value) (σ : dS) : den mX7_count 1 [l0, l1] (.int x :: st) σ = if x = nI 0 then den mX7_count 40 [l0, l1] st σ else if x = nI 1 then den mX7_count 60 [l0, l1] st σ else if x = nI 2 then den mX7_count 67 [l0, l1] st σ else if x = nI 3 then den mX7_count 72 [l0, l1] st σ else if x = nI 4 then den mX7_count 95 [l0, l1] st σ else if x = nI 5 then den mX7_count 102 [l0, l1] st σ else den mX7_count 109 [l0, l1] st σ := by
  by_cases h0 : x = nI 0
  · rw [if_pos h0, h0]; exact dn_swIn (off := 39) eX7_count dX7_count_1 (by decide +kernel) (by decide +kernel) (by decide)
  rw [if_neg h0]
  by_cases h1 : x = nI 1
  · rw [if_pos h1, h1]; exact dn_swIn (off := 59) eX7_count dX7_count_1 (by decide +kernel) (by decide +kernel) (by decide)
  rw [if_neg h1]
  by_cases h2 : x = nI 2
  · rw [if_pos h2, h2]; exact dn_swIn (off := 66) eX7_count dX7_count_1 (by decide +kernel) (by decide +kernel) (by decide)
  rw [if_neg h2]
  by_cases h3 : x = nI 3
  · rw [if_pos h3, h3]; exact dn_swIn (off := 71) eX7_count dX7_count_1 (by decide +kernel) (by decide +kernel) (by decide)
  rw [if_neg h3]
  by_cases h4 : x = nI 4
  · rw [if_pos h4, h4]; exact dn_swIn (off := 94) eX7_count dX7_count_1 (by decide +kernel) (by decide +kernel) (by decide)
  rw [if_neg h4]
  by_cases h5 : x = nI 5
  · rw [if_pos h5, h5]; exact dn_swIn (off := 101) eX7_count dX7_count_1 (by decide +kernel) (by decide +kernel) (by decide)
  rw [if_neg h5]
  refine dn_swOut eX7_count dX7_count_1 (by decide) ?_
  have g : x.toInt ≠ 0 ∧ x.toInt ≠ 1 ∧ x.toInt ≠ 2 ∧ x.toInt ≠ 3 ∧ x.toInt ≠ 4 ∧ x.toInt ≠ 5 := ⟨sw_ne h0, sw_ne h1, sw_ne h2, sw_ne h3, sw_ne h4, sw_ne h5⟩
  omega
theorem rX7_count_63 (l0 l1 : Option Value) (a0 : Int32) (a1 : Int32) (q : Nat) (σ : dS) : den mX7_count 63 [l0, l1] [.int a1, .int a0, .ref q] σ = if disO σ q 6 = true then ((dcall mX7_sumOf [.ref q, .int a0, .int a1] σ).bind fun r => den mX7_count 66 [l0, l1] (r.1.toList ++ []) r.2) else none := by
  by_cases h : disO σ q 6 = true
  · rw [if_pos h]; exact dn_callV (e := (0, 184, 1211)) (as := [.int a0, .int a1]) (rest := []) eX7_count dX7_count_63 (by decide +kernel) rfl (by decide +kernel) rfl (dcat_le rfl) (dlen_le rfl) rfl h
  · rw [if_neg h]; exact den_noV (e := (0, 184, 1211)) (as := [.int a0, .int a1]) (rest := []) eX7_count dX7_count_63 (by decide +kernel) rfl rfl rfl h
theorem rX7_count_98 (l0 l1 : Option Value) (a0 : Int32) (a1 : Int32) (q : Nat) (σ : dS) : den mX7_count 98 [l0, l1] [.int a1, .int a0, .ref q] σ = if disO σ q 6 = true then ((dcall mX7_sumOf [.ref q, .int a0, .int a1] σ).bind fun r => den mX7_count 101 [l0, l1] (r.1.toList ++ []) r.2) else none := by
  by_cases h : disO σ q 6 = true
  · rw [if_pos h]; exact dn_callV (e := (0, 184, 1211)) (as := [.int a0, .int a1]) (rest := []) eX7_count dX7_count_98 (by decide +kernel) rfl (by decide +kernel) rfl (dcat_le rfl) (dlen_le rfl) rfl h
  · rw [if_neg h]; exact den_noV (e := (0, 184, 1211)) (as := [.int a0, .int a1]) (rest := []) eX7_count dX7_count_98 (by decide +kernel) rfl rfl rfl h
theorem rX7_count_105 (l0 l1 : Option Value) (a0 : Int32) (a1 : Int32) (q : Nat) (σ : dS) : den mX7_count 105 [l0, l1] [.int a1, .int a0, .ref q] σ = if disO σ q 6 = true then ((dcall mX7_sumOf [.ref q, .int a0, .int a1] σ).bind fun r => den mX7_count 108 [l0, l1] (r.1.toList ++ []) r.2) else none := by
  by_cases h : disO σ q 6 = true
  · rw [if_pos h]; exact dn_callV (e := (0, 184, 1211)) (as := [.int a0, .int a1]) (rest := []) eX7_count dX7_count_105 (by decide +kernel) rfl (by decide +kernel) rfl (dcat_le rfl) (dlen_le rfl) rfl h
  · rw [if_neg h]; exact den_noV (e := (0, 184, 1211)) (as := [.int a0, .int a1]) (rest := []) eX7_count dX7_count_105 (by decide +kernel) rfl rfl rfl h
set_option maxRecDepth 20000 in
theorem SX7_count_0 : (∀ (l0 : Option Value) (x : Int32) (st : List Value) (σ : dS), den mX7_count 0 [l0, some (.int x)] st σ = den mX7_count 1 [l0, some (.int x)] (.int x :: st) σ) ∧
  (∀ (l0 l1 : Option Value) (x : Int32) (st : List Value) (σ : dS), den mX7_count 1 [l0, l1] (.int x :: st) σ = if x = nI 0 then den mX7_count 40 [l0, l1] st σ else if x = nI 1 then den mX7_count 60 [l0, l1] st σ else if x = nI 2 then den mX7_count 67 [l0, l1] st σ else if x = nI 3 then den mX7_count 72 [l0, l1] st σ else if x = nI 4 then den mX7_count 95 [l0, l1] st σ else if x = nI 5 then den mX7_count 102 [l0, l1] st σ else den mX7_count 109 [l0, l1] st σ) ∧
  (∀ (l1 : Option Value) (x : Nat) (st : List Value) (σ : dS), den mX7_count 40 [some (.ref x), l1] st σ = den mX7_count 41 [some (.ref x), l1] (.ref x :: st) σ) ∧
  (∀ (l0 l1 : Option Value) (q : Nat) (st : List Value) (σ : dS), den mX7_count 41 [l0, l1] (.ref q :: st) σ = (dget σ q 6 2).bind fun v => den mX7_count 44 [l0, l1] (v :: st) σ) ∧
  (∀ (l0 l1 : Option Value) (st : List Value) (σ : dS), den mX7_count 44 [l0, l1] st σ = den mX7_count 45 [l0, l1] (.int (nI 0) :: st) σ) ∧
  (∀ (l0 l1 : Option Value) (q : Nat) (i : Int32) (st : List Value) (σ : dS), den mX7_count 45 [l0, l1] (.int i :: .ref q :: st) σ = (dbld σ q i).bind fun v => den mX7_count 46 [l0, l1] (.int v :: st) σ) ∧
  (∀ (l0 l1 : Option Value) (a0 : Int32) (σ : dS), den mX7_count 46 [l0, l1] [.int a0] σ = (dcall mX7_flag [.int a0] σ).bind fun r => den mX7_count 49 [l0, l1] (r.1.toList ++ []) r.2) ∧
  (∀ (l1 : Option Value) (x : Nat) (st : List Value) (σ : dS), den mX7_count 49 [some (.ref x), l1] st σ = den mX7_count 50 [some (.ref x), l1] (.ref x :: st) σ) ∧
  (∀ (l0 l1 : Option Value) (q : Nat) (st : List Value) (σ : dS), den mX7_count 50 [l0, l1] (.ref q :: st) σ = (dget σ q 6 2).bind fun v => den mX7_count 53 [l0, l1] (v :: st) σ) ∧
  (∀ (l0 l1 : Option Value) (st : List Value) (σ : dS), den mX7_count 53 [l0, l1] st σ = den mX7_count 54 [l0, l1] (.int (nI 1) :: st) σ) ∧
  (∀ (l0 l1 : Option Value) (q : Nat) (i : Int32) (st : List Value) (σ : dS), den mX7_count 54 [l0, l1] (.int i :: .ref q :: st) σ = (dbld σ q i).bind fun v => den mX7_count 55 [l0, l1] (.int v :: st) σ) ∧
  (∀ (l0 l1 : Option Value) (a0 : Int32) (b0 : Int32) (σ : dS), den mX7_count 55 [l0, l1] [.int a0, .int b0] σ = (dcall mX7_flag [.int a0] σ).bind fun r => den mX7_count 58 [l0, l1] (r.1.toList ++ [.int b0]) r.2) ∧
  (∀ (l0 l1 : Option Value) (x y : Int32) (st : List Value) (σ : dS), den mX7_count 58 [l0, l1] (.int y :: .int x :: st) σ = den mX7_count 59 [l0, l1] (.int (x + y) :: st) σ) ∧
  (∀ (l0 l1 : Option Value) (v : Int32) (σ : dS), den mX7_count 59 [l0, l1] [.int v] σ = some (some (.int v), σ)) ∧
  (∀ (l1 : Option Value) (x : Nat) (st : List Value) (σ : dS), den mX7_count 60 [some (.ref x), l1] st σ = den mX7_count 61 [some (.ref x), l1] (.ref x :: st) σ) ∧
  (∀ (l0 l1 : Option Value) (st : List Value) (σ : dS), den mX7_count 61 [l0, l1] st σ = den mX7_count 62 [l0, l1] (.int (nI 4) :: st) σ) ∧
  (∀ (l0 l1 : Option Value) (st : List Value) (σ : dS), den mX7_count 62 [l0, l1] st σ = den mX7_count 63 [l0, l1] (.int (nI 1) :: st) σ) ∧
  (∀ (l0 l1 : Option Value) (a0 : Int32) (a1 : Int32) (q : Nat) (σ : dS), den mX7_count 63 [l0, l1] [.int a1, .int a0, .ref q] σ = if disO σ q 6 = true then ((dcall mX7_sumOf [.ref q, .int a0, .int a1] σ).bind fun r => den mX7_count 66 [l0, l1] (r.1.toList ++ []) r.2) else none) ∧
  (∀ (l0 l1 : Option Value) (v : Int32) (σ : dS), den mX7_count 66 [l0, l1] [.int v] σ = some (some (.int v), σ)) ∧
  (∀ (l1 : Option Value) (x : Nat) (st : List Value) (σ : dS), den mX7_count 67 [some (.ref x), l1] st σ = den mX7_count 68 [some (.ref x), l1] (.ref x :: st) σ) ∧
  (∀ (l0 l1 : Option Value) (q : Nat) (st : List Value) (σ : dS), den mX7_count 68 [l0, l1] (.ref q :: st) σ = (dget σ q 6 5).bind fun v => den mX7_count 71 [l0, l1] (v :: st) σ) ∧
  (∀ (l0 l1 : Option Value) (v : Int32) (σ : dS), den mX7_count 71 [l0, l1] [.int v] σ = some (some (.int v), σ)) ∧
  (∀ (l1 : Option Value) (x : Nat) (st : List Value) (σ : dS), den mX7_count 72 [some (.ref x), l1] st σ = den mX7_count 73 [some (.ref x), l1] (.ref x :: st) σ) ∧
  (∀ (l0 l1 : Option Value) (q : Nat) (st : List Value) (σ : dS), den mX7_count 73 [l0, l1] (.ref q :: st) σ = (dget σ q 6 29).bind fun v => den mX7_count 76 [l0, l1] (v :: st) σ) ∧
  (∀ (l0 l1 : Option Value) (st : List Value) (σ : dS), den mX7_count 76 [l0, l1] st σ = den mX7_count 77 [l0, l1] (.int (nI 0) :: st) σ) ∧
  (∀ (l0 l1 : Option Value) (q : Nat) (i : Int32) (st : List Value) (σ : dS), den mX7_count 77 [l0, l1] (.int i :: .ref q :: st) σ = if q ≤ dN then (dald σ q 0 i).bind (fun v => den mX7_count 78 [l0, l1] (.int v :: st) σ) else none) ∧
  (∀ (l0 l1 : Option Value) (st : List Value) (σ : dS), den mX7_count 78 [l0, l1] st σ = den mX7_count 80 [l0, l1] (.int ((-4)) :: st) σ) ∧
  (∀ (l0 l1 : Option Value) (x y : Int32) (st : List Value) (σ : dS), den mX7_count 80 [l0, l1] (.int y :: .int x :: st) σ = if x = y then den mX7_count 83 [l0, l1] st σ else den mX7_count 88 [l0, l1] st σ) ∧
  (∀ (l0 l1 : Option Value) (st : List Value) (σ : dS), den mX7_count 83 [l0, l1] st σ = den mX7_count 85 [l0, l1] (.int ((-4)) :: st) σ) ∧
  (∀ (l0 l1 : Option Value) (st : List Value) (σ : dS), den mX7_count 85 [l0, l1] st σ = den mX7_count 94 [l0, l1] st σ) ∧
  (∀ (l1 : Option Value) (x : Nat) (st : List Value) (σ : dS), den mX7_count 88 [some (.ref x), l1] st σ = den mX7_count 89 [some (.ref x), l1] (.ref x :: st) σ) ∧
  (∀ (l0 l1 : Option Value) (q : Nat) (st : List Value) (σ : dS), den mX7_count 89 [l0, l1] (.ref q :: st) σ = (dget σ q 6 30).bind fun v => den mX7_count 92 [l0, l1] (v :: st) σ) ∧
  (∀ (l0 l1 : Option Value) (st : List Value) (σ : dS), den mX7_count 92 [l0, l1] st σ = den mX7_count 93 [l0, l1] (.int (nI 0) :: st) σ) ∧
  (∀ (l0 l1 : Option Value) (q : Nat) (i : Int32) (st : List Value) (σ : dS), den mX7_count 93 [l0, l1] (.int i :: .ref q :: st) σ = if q ≤ dN then (dald σ q 0 i).bind (fun v => den mX7_count 94 [l0, l1] (.int v :: st) σ) else none) ∧
  (∀ (l0 l1 : Option Value) (v : Int32) (σ : dS), den mX7_count 94 [l0, l1] [.int v] σ = some (some (.int v), σ)) ∧
  (∀ (l1 : Option Value) (x : Nat) (st : List Value) (σ : dS), den mX7_count 95 [some (.ref x), l1] st σ = den mX7_count 96 [some (.ref x), l1] (.ref x :: st) σ) ∧
  (∀ (l0 l1 : Option Value) (st : List Value) (σ : dS), den mX7_count 96 [l0, l1] st σ = den mX7_count 97 [l0, l1] (.int (nI 0) :: st) σ) ∧
  (∀ (l0 l1 : Option Value) (st : List Value) (σ : dS), den mX7_count 97 [l0, l1] st σ = den mX7_count 98 [l0, l1] (.int (nI 0) :: st) σ) ∧
  (∀ (l0 l1 : Option Value) (a0 : Int32) (a1 : Int32) (q : Nat) (σ : dS), den mX7_count 98 [l0, l1] [.int a1, .int a0, .ref q] σ = if disO σ q 6 = true then ((dcall mX7_sumOf [.ref q, .int a0, .int a1] σ).bind fun r => den mX7_count 101 [l0, l1] (r.1.toList ++ []) r.2) else none) ∧
  (∀ (l0 l1 : Option Value) (v : Int32) (σ : dS), den mX7_count 101 [l0, l1] [.int v] σ = some (some (.int v), σ)) :=
  ⟨fun l0 x st σ => dn_iload_n eX7_count dX7_count_0 rfl,
  fun l0 l1 x st σ => rX7_count_1 l0 l1 x st σ,
  fun l1 x st σ => dn_aload_n eX7_count dX7_count_40 rfl,
  fun l0 l1 q st σ => dn_getfield (f := (6, 2, 773)) eX7_count dX7_count_41 (by decide +kernel),
  fun l0 l1 st σ => dn_iconst eX7_count dX7_count_44 kc_iconst_0,
  fun l0 l1 q i st σ => dn_baload eX7_count dX7_count_45,
  fun l0 l1 a0 σ => dn_callS (e := (1, 103, 951)) (as := [.int a0]) (rest := []) eX7_count dX7_count_46 (by decide +kernel) (Or.inl rfl) (by decide +kernel) rfl (dcat_le rfl) (dlen_le rfl) rfl,
  fun l1 x st σ => dn_aload_n eX7_count dX7_count_49 rfl,
  fun l0 l1 q st σ => dn_getfield (f := (6, 2, 773)) eX7_count dX7_count_50 (by decide +kernel),
  fun l0 l1 st σ => dn_iconst eX7_count dX7_count_53 kc_iconst_1,
  fun l0 l1 q i st σ => dn_baload eX7_count dX7_count_54,
  fun l0 l1 a0 b0 σ => dn_callS (e := (1, 103, 951)) (as := [.int a0]) (rest := [.int b0]) eX7_count dX7_count_55 (by decide +kernel) (Or.inl rfl) (by decide +kernel) rfl (dcat_le rfl) (dlen_le rfl) rfl,
  fun l0 l1 x y st σ => dn_iadd eX7_count dX7_count_58,
  fun l0 l1 v σ => dn_ireturn eX7_count dX7_count_59 rfl,
  fun l1 x st σ => dn_aload_n eX7_count dX7_count_60 rfl,
  fun l0 l1 st σ => dn_iconst eX7_count dX7_count_61 kc_iconst_4,
  fun l0 l1 st σ => dn_iconst eX7_count dX7_count_62 kc_iconst_1,
  fun l0 l1 a0 a1 q σ => rX7_count_63 l0 l1 a0 a1 q σ,
  fun l0 l1 v σ => dn_ireturn eX7_count dX7_count_66 rfl,
  fun l1 x st σ => dn_aload_n eX7_count dX7_count_67 rfl,
  fun l0 l1 q st σ => dn_getfield (f := (6, 5, 776)) eX7_count dX7_count_68 (by decide +kernel),
  fun l0 l1 v σ => dn_ireturn eX7_count dX7_count_71 rfl,
  fun l1 x st σ => dn_aload_n eX7_count dX7_count_72 rfl,
  fun l0 l1 q st σ => dn_getfield (f := (6, 29, 800)) eX7_count dX7_count_73 (by decide +kernel),
  fun l0 l1 st σ => dn_iconst eX7_count dX7_count_76 kc_iconst_0,
  fun l0 l1 q i st σ => dn_iaload eX7_count dX7_count_77,
  fun l0 l1 st σ => dn_bipush eX7_count dX7_count_78 kc_bipush_m4,
  fun l0 l1 x y st σ => dn_icmp_ne eX7_count dX7_count_80 (by decide),
  fun l0 l1 st σ => dn_bipush eX7_count dX7_count_83 kc_bipush_m4,
  fun l0 l1 st σ => dn_goto eX7_count dX7_count_85 (by decide),
  fun l1 x st σ => dn_aload_n eX7_count dX7_count_88 rfl,
  fun l0 l1 q st σ => dn_getfield (f := (6, 30, 801)) eX7_count dX7_count_89 (by decide +kernel),
  fun l0 l1 st σ => dn_iconst eX7_count dX7_count_92 kc_iconst_0,
  fun l0 l1 q i st σ => dn_iaload eX7_count dX7_count_93,
  fun l0 l1 v σ => dn_ireturn eX7_count dX7_count_94 rfl,
  fun l1 x st σ => dn_aload_n eX7_count dX7_count_95 rfl,
  fun l0 l1 st σ => dn_iconst eX7_count dX7_count_96 kc_iconst_0,
  fun l0 l1 st σ => dn_iconst eX7_count dX7_count_97 kc_iconst_0,
  fun l0 l1 a0 a1 q σ => rX7_count_98 l0 l1 a0 a1 q σ,
  fun l0 l1 v σ => dn_ireturn eX7_count dX7_count_101 rfl⟩
set_option maxRecDepth 20000 in
theorem SX7_count_1 : (∀ (l1 : Option Value) (x : Nat) (st : List Value) (σ : dS), den mX7_count 102 [some (.ref x), l1] st σ = den mX7_count 103 [some (.ref x), l1] (.ref x :: st) σ) ∧
  (∀ (l0 l1 : Option Value) (st : List Value) (σ : dS), den mX7_count 103 [l0, l1] st σ = den mX7_count 104 [l0, l1] (.int (nI 5) :: st) σ) ∧
  (∀ (l0 l1 : Option Value) (st : List Value) (σ : dS), den mX7_count 104 [l0, l1] st σ = den mX7_count 105 [l0, l1] (.int (nI 0) :: st) σ) ∧
  (∀ (l0 l1 : Option Value) (a0 : Int32) (a1 : Int32) (q : Nat) (σ : dS), den mX7_count 105 [l0, l1] [.int a1, .int a0, .ref q] σ = if disO σ q 6 = true then ((dcall mX7_sumOf [.ref q, .int a0, .int a1] σ).bind fun r => den mX7_count 108 [l0, l1] (r.1.toList ++ []) r.2) else none) ∧
  (∀ (l0 l1 : Option Value) (v : Int32) (σ : dS), den mX7_count 108 [l0, l1] [.int v] σ = some (some (.int v), σ)) ∧
  (∀ (l0 l1 : Option Value) (st : List Value) (σ : dS), den mX7_count 109 [l0, l1] st σ = den mX7_count 110 [l0, l1] (.int ((-1)) :: st) σ) ∧
  (∀ (l0 l1 : Option Value) (v : Int32) (σ : dS), den mX7_count 110 [l0, l1] [.int v] σ = some (some (.int v), σ)) :=
  ⟨fun l1 x st σ => dn_aload_n eX7_count dX7_count_102 rfl,
  fun l0 l1 st σ => dn_iconst eX7_count dX7_count_103 kc_iconst_5,
  fun l0 l1 st σ => dn_iconst eX7_count dX7_count_104 kc_iconst_0,
  fun l0 l1 a0 a1 q σ => rX7_count_105 l0 l1 a0 a1 q σ,
  fun l0 l1 v σ => dn_ireturn eX7_count dX7_count_108 rfl,
  fun l0 l1 st σ => dn_iconst eX7_count dX7_count_109 kc_iconst_m1,
  fun l0 l1 v σ => dn_ireturn eX7_count dX7_count_110 rfl⟩

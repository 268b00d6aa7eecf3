theorem CX7_isWithin (a0 : Nat) (a1 : Int32) (a2 : Int32) (σ : dS) : dcall mX7_isWithin [.ref a0, .int a1, .int a2] σ = den mX7_isWithin 0 [some (.ref a0), some (.int a1), some (.int a2), none] [] σ := dcall_den (by decide) rfl
theorem hX7_isWithin_2 (l0 l1 l2 : Option Value) (x : Int32) (st : List Value) (σ : dS) : den mX7_isWithin 2 [l0, l1, l2, some (.int x)] st σ = den mX7_isWithin 3 [l0, l1, l2, some (.int x)] (.int x :: st) σ := dn_iload_n eX7_isWithin dX7_isWithin_2 rfl
theorem rX7_isWithin_13 (l0 l1 l2 l3 : Option Value) (a0 : Int32) (q : Nat) (σ : dS) : den mX7_isWithin 13 [l0, l1, l2, l3] [.int a0, .ref q] σ = if disO σ q 6 = true then ((dcall mX7_parentOf [.ref q, .int a0] σ).bind fun r => den mX7_isWithin 16 [l0, l1, l2, l3] (r.1.toList ++ []) r.2) else none := by
  by_cases h : disO σ q 6 = true
  · rw [if_pos h]; exact dn_callV (e := (0, 128, 962)) (as := [.int a0]) (rest := []) eX7_isWithin dX7_isWithin_13 (by decide +kernel) rfl (by decide +kernel) rfl (dcat_le rfl) (dlen_le rfl) rfl h
  · rw [if_neg h]; exact den_noV (e := (0, 128, 962)) (as := [.int a0]) (rest := []) eX7_isWithin dX7_isWithin_13 (by decide +kernel) rfl rfl rfl h
set_option maxRecDepth 20000 in
theorem SX7_isWithin : (∀ (l0 l2 l3 : Option Value) (x : Int32) (st : List Value) (σ : dS), den mX7_isWithin 0 [l0, some (.int x), l2, l3] st σ = den mX7_isWithin 1 [l0, some (.int x), l2, l3] (.int x :: st) σ) ∧
  (∀ (l0 l1 l3 : Option Value) (x : Int32) (y : Int32) (st : List Value) (σ : dS), den mX7_isWithin 1 [l0, l1, some (.int y), l3] (.int x :: st) σ = den mX7_isWithin 2 [l0, l1, some (.int y), some (.int x)] st σ) ∧
  (∀ (l0 l1 l3 : Option Value) (x : Int32) (st : List Value) (σ : dS), den mX7_isWithin 3 [l0, l1, some (.int x), l3] st σ = den mX7_isWithin 4 [l0, l1, some (.int x), l3] (.int x :: st) σ) ∧
  (∀ (l0 l1 l2 l3 : Option Value) (x y : Int32) (st : List Value) (σ : dS), den mX7_isWithin 4 [l0, l1, l2, l3] (.int y :: .int x :: st) σ = if x = y then den mX7_isWithin 20 [l0, l1, l2, l3] st σ else den mX7_isWithin 7 [l0, l1, l2, l3] st σ) ∧
  (∀ (l0 l1 l2 : Option Value) (x : Int32) (st : List Value) (σ : dS), den mX7_isWithin 7 [l0, l1, l2, some (.int x)] st σ = den mX7_isWithin 8 [l0, l1, l2, some (.int x)] (.int x :: st) σ) ∧
  (∀ (l0 l1 l2 l3 : Option Value) (x : Int32) (st : List Value) (σ : dS), den mX7_isWithin 8 [l0, l1, l2, l3] (.int x :: st) σ = if 0 < x then den mX7_isWithin 11 [l0, l1, l2, l3] st σ else den mX7_isWithin 20 [l0, l1, l2, l3] st σ) ∧
  (∀ (l1 l2 l3 : Option Value) (x : Nat) (st : List Value) (σ : dS), den mX7_isWithin 11 [some (.ref x), l1, l2, l3] st σ = den mX7_isWithin 12 [some (.ref x), l1, l2, l3] (.ref x :: st) σ) ∧
  (∀ (l0 l1 l2 : Option Value) (x : Int32) (st : List Value) (σ : dS), den mX7_isWithin 12 [l0, l1, l2, some (.int x)] st σ = den mX7_isWithin 13 [l0, l1, l2, some (.int x)] (.int x :: st) σ) ∧
  (∀ (l0 l1 l2 l3 : Option Value) (a0 : Int32) (q : Nat) (σ : dS), den mX7_isWithin 13 [l0, l1, l2, l3] [.int a0, .ref q] σ = if disO σ q 6 = true then ((dcall mX7_parentOf [.ref q, .int a0] σ).bind fun r => den mX7_isWithin 16 [l0, l1, l2, l3] (r.1.toList ++ []) r.2) else none) ∧
  (∀ (l0 l1 l3 : Option Value) (x : Int32) (y : Int32) (st : List Value) (σ : dS), den mX7_isWithin 16 [l0, l1, some (.int y), l3] (.int x :: st) σ = den mX7_isWithin 17 [l0, l1, some (.int y), some (.int x)] st σ) ∧
  (∀ (l0 l1 l2 l3 : Option Value) (st : List Value) (σ : dS), den mX7_isWithin 17 [l0, l1, l2, l3] st σ = den mX7_isWithin 2 [l0, l1, l2, l3] st σ) ∧
  (∀ (l0 l1 l2 : Option Value) (x : Int32) (st : List Value) (σ : dS), den mX7_isWithin 20 [l0, l1, l2, some (.int x)] st σ = den mX7_isWithin 21 [l0, l1, l2, some (.int x)] (.int x :: st) σ) ∧
  (∀ (l0 l1 l3 : Option Value) (x : Int32) (st : List Value) (σ : dS), den mX7_isWithin 21 [l0, l1, some (.int x), l3] st σ = den mX7_isWithin 22 [l0, l1, some (.int x), l3] (.int x :: st) σ) ∧
  (∀ (l0 l1 l2 l3 : Option Value) (x y : Int32) (st : List Value) (σ : dS), den mX7_isWithin 22 [l0, l1, l2, l3] (.int y :: .int x :: st) σ = if x = y then den mX7_isWithin 25 [l0, l1, l2, l3] st σ else den mX7_isWithin 29 [l0, l1, l2, l3] st σ) ∧
  (∀ (l0 l1 l2 l3 : Option Value) (st : List Value) (σ : dS), den mX7_isWithin 25 [l0, l1, l2, l3] st σ = den mX7_isWithin 26 [l0, l1, l2, l3] (.int (nI 1) :: st) σ) ∧
  (∀ (l0 l1 l2 l3 : Option Value) (st : List Value) (σ : dS), den mX7_isWithin 26 [l0, l1, l2, l3] st σ = den mX7_isWithin 30 [l0, l1, l2, l3] st σ) ∧
  (∀ (l0 l1 l2 l3 : Option Value) (st : List Value) (σ : dS), den mX7_isWithin 29 [l0, l1, l2, l3] st σ = den mX7_isWithin 30 [l0, l1, l2, l3] (.int (nI 0) :: st) σ) ∧
  (∀ (l0 l1 l2 l3 : Option Value) (v : Int32) (σ : dS), den mX7_isWithin 30 [l0, l1, l2, l3] [.int v] σ = if v = 0 ∨ v = 1 then some (some (.int v), σ) else none) :=
  ⟨fun l0 l2 l3 x st σ => dn_iload_n eX7_isWithin dX7_isWithin_0 rfl,
  fun l0 l1 l3 x y st σ => dn_istore_n eX7_isWithin dX7_isWithin_1 rfl,
  fun l0 l1 l3 x st σ => dn_iload_n eX7_isWithin dX7_isWithin_3 rfl,
  fun l0 l1 l2 l3 x y st σ => dn_icmp_eq eX7_isWithin dX7_isWithin_4 (by decide),
  fun l0 l1 l2 x st σ => dn_iload_n eX7_isWithin dX7_isWithin_7 rfl,
  fun l0 l1 l2 l3 x st σ => dn_if_le eX7_isWithin dX7_isWithin_8 (by decide),
  fun l1 l2 l3 x st σ => dn_aload_n eX7_isWithin dX7_isWithin_11 rfl,
  fun l0 l1 l2 x st σ => dn_iload_n eX7_isWithin dX7_isWithin_12 rfl,
  fun l0 l1 l2 l3 a0 q σ => rX7_isWithin_13 l0 l1 l2 l3 a0 q σ,
  fun l0 l1 l3 x y st σ => dn_istore_n eX7_isWithin dX7_isWithin_16 rfl,
  fun l0 l1 l2 l3 st σ => dn_goto eX7_isWithin dX7_isWithin_17 (by decide),
  fun l0 l1 l2 x st σ => dn_iload_n eX7_isWithin dX7_isWithin_20 rfl,
  fun l0 l1 l3 x st σ => dn_iload_n eX7_isWithin dX7_isWithin_21 rfl,
  fun l0 l1 l2 l3 x y st σ => dn_icmp_ne eX7_isWithin dX7_isWithin_22 (by decide),
  fun l0 l1 l2 l3 st σ => dn_iconst eX7_isWithin dX7_isWithin_25 kc_iconst_1,
  fun l0 l1 l2 l3 st σ => dn_goto eX7_isWithin dX7_isWithin_26 (by decide),
  fun l0 l1 l2 l3 st σ => dn_iconst eX7_isWithin dX7_isWithin_29 kc_iconst_0,
  fun l0 l1 l2 l3 v σ => dn_zreturn eX7_isWithin dX7_isWithin_30 rfl⟩
theorem CX7_costOf (a0 : Int32) (σ : dS) : dcall mX7_costOf [.int a0] σ = den mX7_costOf 0 [some (.int a0)] [] σ := dcall_den (by decide) rfl
set_option maxRecDepth 20000 in
theorem SX7_costOf : (∀ (x : Int32) (st : List Value) (σ : dS), den mX7_costOf 0 [some (.int x)] st σ = den mX7_costOf 1 [some (.int x)] (.int x :: st) σ) ∧
  (∀ (l0 : Option Value) (st : List Value) (σ : dS), den mX7_costOf 1 [l0] st σ = den mX7_costOf 2 [l0] (.int (nI 4) :: st) σ) ∧
  (∀ (l0 : Option Value) (x y : Int32) (st : List Value) (σ : dS), den mX7_costOf 2 [l0] (.int y :: .int x :: st) σ = if x = y then den mX7_costOf 5 [l0] st σ else den mX7_costOf 9 [l0] st σ) ∧
  (∀ (l0 : Option Value) (st : List Value) (σ : dS), den mX7_costOf 5 [l0] st σ = den mX7_costOf 6 [l0] (.int (nI 4) :: st) σ) ∧
  (∀ (l0 : Option Value) (st : List Value) (σ : dS), den mX7_costOf 6 [l0] st σ = den mX7_costOf 10 [l0] st σ) ∧
  (∀ (l0 : Option Value) (st : List Value) (σ : dS), den mX7_costOf 9 [l0] st σ = den mX7_costOf 10 [l0] (.int (nI 1) :: st) σ) ∧
  (∀ (l0 : Option Value) (v : Int32) (σ : dS), den mX7_costOf 10 [l0] [.int v] σ = some (some (.int v), σ)) :=
  ⟨fun x st σ => dn_iload_n eX7_costOf dX7_costOf_0 rfl,
  fun l0 st σ => dn_iconst eX7_costOf dX7_costOf_1 kc_iconst_4,
  fun l0 x y st σ => dn_icmp_ne eX7_costOf dX7_costOf_2 (by decide),
  fun l0 st σ => dn_iconst eX7_costOf dX7_costOf_5 kc_iconst_4,
  fun l0 st σ => dn_goto eX7_costOf dX7_costOf_6 (by decide),
  fun l0 st σ => dn_iconst eX7_costOf dX7_costOf_9 kc_iconst_1,
  fun l0 v σ => dn_ireturn eX7_costOf dX7_costOf_10 rfl⟩
theorem CX7_flatOf (a0 : Nat) (a1 : Int32) (σ : dS) : dcall mX7_flatOf [.ref a0, .int a1] σ = den mX7_flatOf 0 [some (.ref a0), some (.int a1), none, none, none] [] σ := dcall_den (by decide) rfl
theorem rX7_flatOf_3 (l0 l1 l2 l3 l4 : Option Value) (a0 : Int32) (a1 : Int32) (q : Nat) (σ : dS) : den mX7_flatOf 3 [l0, l1, l2, l3, l4] [.int a1, .int a0, .ref q] σ = if disO σ q 6 = true then ((dcall mX7_of [.ref q, .int a0, .int a1] σ).bind fun r => den mX7_flatOf 6 [l0, l1, l2, l3, l4] (r.1.toList ++ []) r.2) else none := by
  by_cases h : disO σ q 6 = true
  · rw [if_pos h]; exact dn_callV (e := (0, 120, 947)) (as := [.int a0, .int a1]) (rest := []) eX7_flatOf dX7_flatOf_3 (by decide +kernel) rfl (by decide +kernel) rfl (dcat_le rfl) (dlen_le rfl) rfl h
  · rw [if_neg h]; exact den_noV (e := (0, 120, 947)) (as := [.int a0, .int a1]) (rest := []) eX7_flatOf dX7_flatOf_3 (by decide +kernel) rfl rfl rfl h
theorem rX7_flatOf_13 (l0 l1 l2 l3 l4 : Option Value) (a0 : Int32) (a1 : Int32) (q : Nat) (σ : dS) : den mX7_flatOf 13 [l0, l1, l2, l3, l4] [.int a1, .int a0, .ref q] σ = if disO σ q 6 = true then ((dcall mX7_of [.ref q, .int a0, .int a1] σ).bind fun r => den mX7_flatOf 16 [l0, l1, l2, l3, l4] (r.1.toList ++ []) r.2) else none := by
  by_cases h : disO σ q 6 = true
  · rw [if_pos h]; exact dn_callV (e := (0, 120, 947)) (as := [.int a0, .int a1]) (rest := []) eX7_flatOf dX7_flatOf_13 (by decide +kernel) rfl (by decide +kernel) rfl (dcat_le rfl) (dlen_le rfl) rfl h
  · rw [if_neg h]; exact den_noV (e := (0, 120, 947)) (as := [.int a0, .int a1]) (rest := []) eX7_flatOf dX7_flatOf_13 (by decide +kernel) rfl rfl rfl h
theorem rX7_flatOf_22 (l0 l1 l2 l3 l4 : Option Value) (a0 : Int32) (q : Nat) (σ : dS) : den mX7_flatOf 22 [l0, l1, l2, l3, l4] [.int a0, .ref q] σ = if disO σ q 6 = true then ((dcall mX7_ifOf [.ref q, .int a0] σ).bind fun r => den mX7_flatOf 25 [l0, l1, l2, l3, l4] (r.1.toList ++ []) r.2) else none := by
  by_cases h : disO σ q 6 = true
  · rw [if_pos h]; exact dn_callV (e := (0, 124, 983)) (as := [.int a0]) (rest := []) eX7_flatOf dX7_flatOf_22 (by decide +kernel) rfl (by decide +kernel) rfl (dcat_le rfl) (dlen_le rfl) rfl h
  · rw [if_neg h]; exact den_noV (e := (0, 124, 983)) (as := [.int a0]) (rest := []) eX7_flatOf dX7_flatOf_22 (by decide +kernel) rfl rfl rfl h
theorem hX7_flatOf_33 (l0 l1 l2 l3 : Option Value) (x : Int32) (st : List Value) (σ : dS) : den mX7_flatOf 33 [l0, l1, l2, l3, some (.int x)] st σ = den mX7_flatOf 35 [l0, l1, l2, l3, some (.int x)] (.int x :: st) σ := dn_iload eX7_flatOf dX7_flatOf_33 rfl
theorem rX7_flatOf_50 (l0 l1 l2 l3 l4 : Option Value) (a0 : Int32) (a1 : Int32) (b0 : Nat) (q : Nat) (σ : dS) : den mX7_flatOf 50 [l0, l1, l2, l3, l4] [.int a1, .int a0, .ref q, .ref b0] σ = if disO σ q 6 = true then ((dcall mX7_of [.ref q, .int a0, .int a1] σ).bind fun r => den mX7_flatOf 53 [l0, l1, l2, l3, l4] (r.1.toList ++ [.ref b0]) r.2) else none := by
  by_cases h : disO σ q 6 = true
  · rw [if_pos h]; exact dn_callV (e := (0, 120, 947)) (as := [.int a0, .int a1]) (rest := [.ref b0]) eX7_flatOf dX7_flatOf_50 (by decide +kernel) rfl (by decide +kernel) rfl (dcat_le rfl) (dlen_le rfl) rfl h
  · rw [if_neg h]; exact den_noV (e := (0, 120, 947)) (as := [.int a0, .int a1]) (rest := [.ref b0]) eX7_flatOf dX7_flatOf_50 (by decide +kernel) rfl rfl rfl h
theorem rX7_flatOf_58 (l0 l1 l2 l3 l4 : Option Value) (a0 : Int32) (a1 : Int32) (q : Nat) (σ : dS) : den mX7_flatOf 58 [l0, l1, l2, l3, l4] [.int a1, .int a0, .ref q] σ = if disO σ q 6 = true then ((dcall mX7_isWithin [.ref q, .int a0, .int a1] σ).bind fun r => den mX7_flatOf 61 [l0, l1, l2, l3, l4] (r.1.toList ++ []) r.2) else none := by
  by_cases h : disO σ q 6 = true
  · rw [if_pos h]; exact dn_callV (e := (0, 130, 996)) (as := [.int a0, .int a1]) (rest := []) eX7_flatOf dX7_flatOf_58 (by decide +kernel) rfl (by decide +kernel) rfl (dcat_le rfl) (dlen_le rfl) rfl h
  · rw [if_neg h]; exact den_noV (e := (0, 130, 996)) (as := [.int a0, .int a1]) (rest := []) eX7_flatOf dX7_flatOf_58 (by decide +kernel) rfl rfl rfl h
theorem rX7_flatOf_69 (l0 l1 l2 l3 l4 : Option Value) (a0 : Int32) (a1 : Int32) (b0 : Nat) (q : Nat) (σ : dS) : den mX7_flatOf 69 [l0, l1, l2, l3, l4] [.int a1, .int a0, .ref q, .ref b0] σ = if disO σ q 6 = true then ((dcall mX7_of [.ref q, .int a0, .int a1] σ).bind fun r => den mX7_flatOf 72 [l0, l1, l2, l3, l4] (r.1.toList ++ [.ref b0]) r.2) else none := by
  by_cases h : disO σ q 6 = true
  · rw [if_pos h]; exact dn_callV (e := (0, 120, 947)) (as := [.int a0, .int a1]) (rest := [.ref b0]) eX7_flatOf dX7_flatOf_69 (by decide +kernel) rfl (by decide +kernel) rfl (dcat_le rfl) (dlen_le rfl) rfl h
  · rw [if_neg h]; exact den_noV (e := (0, 120, 947)) (as := [.int a0, .int a1]) (rest := [.ref b0]) eX7_flatOf dX7_flatOf_69 (by decide +kernel) rfl rfl rfl h
theorem rX7_flatOf_77 (l0 l1 l2 l3 l4 : Option Value) (a0 : Int32) (a1 : Int32) (q : Nat) (σ : dS) : den mX7_flatOf 77 [l0, l1, l2, l3, l4] [.int a1, .int a0, .ref q] σ = if disO σ q 6 = true then ((dcall mX7_isWithin [.ref q, .int a0, .int a1] σ).bind fun r => den mX7_flatOf 80 [l0, l1, l2, l3, l4] (r.1.toList ++ []) r.2) else none := by
  by_cases h : disO σ q 6 = true
  · rw [if_pos h]; exact dn_callV (e := (0, 130, 996)) (as := [.int a0, .int a1]) (rest := []) eX7_flatOf dX7_flatOf_77 (by decide +kernel) rfl (by decide +kernel) rfl (dcat_le rfl) (dlen_le rfl) rfl h
  · rw [if_neg h]; exact den_noV (e := (0, 130, 996)) (as := [.int a0, .int a1]) (rest := []) eX7_flatOf dX7_flatOf_77 (by decide +kernel) rfl rfl rfl h
theorem rX7_flatOf_88 (l0 l1 l2 l3 l4 : Option Value) (a0 : Int32) (a1 : Int32) (b0 : Int32) (q : Nat) (σ : dS) : den mX7_flatOf 88 [l0, l1, l2, l3, l4] [.int a1, .int a0, .ref q, .int b0] σ = if disO σ q 6 = true then ((dcall mX7_of [.ref q, .int a0, .int a1] σ).bind fun r => den mX7_flatOf 91 [l0, l1, l2, l3, l4] (r.1.toList ++ [.int b0]) r.2) else none := by
  by_cases h : disO σ q 6 = true
  · rw [if_pos h]; exact dn_callV (e := (0, 120, 947)) (as := [.int a0, .int a1]) (rest := [.int b0]) eX7_flatOf dX7_flatOf_88 (by decide +kernel) rfl (by decide +kernel) rfl (dcat_le rfl) (dlen_le rfl) rfl h
  · rw [if_neg h]; exact den_noV (e := (0, 120, 947)) (as := [.int a0, .int a1]) (rest := [.int b0]) eX7_flatOf dX7_flatOf_88 (by decide +kernel) rfl rfl rfl h
set_option maxRecDepth 20000 in
theorem SX7_flatOf_0 : (∀ (l1 l2 l3 l4 : Option Value) (x : Nat) (st : List Value) (σ : dS), den mX7_flatOf 0 [some (.ref x), l1, l2, l3, l4] st σ = den mX7_flatOf 1 [some (.ref x), l1, l2, l3, l4] (.ref x :: st) σ) ∧
  (∀ (l0 l2 l3 l4 : Option Value) (x : Int32) (st : List Value) (σ : dS), den mX7_flatOf 1 [l0, some (.int x), l2, l3, l4] st σ = den mX7_flatOf 2 [l0, some (.int x), l2, l3, l4] (.int x :: st) σ) ∧
  (∀ (l0 l1 l2 l3 l4 : Option Value) (st : List Value) (σ : dS), den mX7_flatOf 2 [l0, l1, l2, l3, l4] st σ = den mX7_flatOf 3 [l0, l1, l2, l3, l4] (.int (nI 0) :: st) σ) ∧
  (∀ (l0 l1 l2 l3 l4 : Option Value) (a0 : Int32) (a1 : Int32) (q : Nat) (σ : dS), den mX7_flatOf 3 [l0, l1, l2, l3, l4] [.int a1, .int a0, .ref q] σ = if disO σ q 6 = true then ((dcall mX7_of [.ref q, .int a0, .int a1] σ).bind fun r => den mX7_flatOf 6 [l0, l1, l2, l3, l4] (r.1.toList ++ []) r.2) else none) ∧
  (∀ (l0 l1 l2 l3 l4 : Option Value) (st : List Value) (σ : dS), den mX7_flatOf 6 [l0, l1, l2, l3, l4] st σ = den mX7_flatOf 7 [l0, l1, l2, l3, l4] (.int (nI 5) :: st) σ) ∧
  (∀ (l0 l1 l2 l3 l4 : Option Value) (x y : Int32) (st : List Value) (σ : dS), den mX7_flatOf 7 [l0, l1, l2, l3, l4] (.int y :: .int x :: st) σ = if x = y then den mX7_flatOf 20 [l0, l1, l2, l3, l4] st σ else den mX7_flatOf 10 [l0, l1, l2, l3, l4] st σ) ∧
  (∀ (l1 l2 l3 l4 : Option Value) (x : Nat) (st : List Value) (σ : dS), den mX7_flatOf 10 [some (.ref x), l1, l2, l3, l4] st σ = den mX7_flatOf 11 [some (.ref x), l1, l2, l3, l4] (.ref x :: st) σ) ∧
  (∀ (l0 l2 l3 l4 : Option Value) (x : Int32) (st : List Value) (σ : dS), den mX7_flatOf 11 [l0, some (.int x), l2, l3, l4] st σ = den mX7_flatOf 12 [l0, some (.int x), l2, l3, l4] (.int x :: st) σ) ∧
  (∀ (l0 l1 l2 l3 l4 : Option Value) (st : List Value) (σ : dS), den mX7_flatOf 12 [l0, l1, l2, l3, l4] st σ = den mX7_flatOf 13 [l0, l1, l2, l3, l4] (.int (nI 0) :: st) σ) ∧
  (∀ (l0 l1 l2 l3 l4 : Option Value) (a0 : Int32) (a1 : Int32) (q : Nat) (σ : dS), den mX7_flatOf 13 [l0, l1, l2, l3, l4] [.int a1, .int a0, .ref q] σ = if disO σ q 6 = true then ((dcall mX7_of [.ref q, .int a0, .int a1] σ).bind fun r => den mX7_flatOf 16 [l0, l1, l2, l3, l4] (r.1.toList ++ []) r.2) else none) ∧
  (∀ (l0 l1 l2 l3 l4 : Option Value) (a0 : Int32) (σ : dS), den mX7_flatOf 16 [l0, l1, l2, l3, l4] [.int a0] σ = (dcall mX7_costOf [.int a0] σ).bind fun r => den mX7_flatOf 19 [l0, l1, l2, l3, l4] (r.1.toList ++ []) r.2) ∧
  (∀ (l0 l1 l2 l3 l4 : Option Value) (v : Int32) (σ : dS), den mX7_flatOf 19 [l0, l1, l2, l3, l4] [.int v] σ = some (some (.int v), σ)) ∧
  (∀ (l1 l2 l3 l4 : Option Value) (x : Nat) (st : List Value) (σ : dS), den mX7_flatOf 20 [some (.ref x), l1, l2, l3, l4] st σ = den mX7_flatOf 21 [some (.ref x), l1, l2, l3, l4] (.ref x :: st) σ) ∧
  (∀ (l0 l2 l3 l4 : Option Value) (x : Int32) (st : List Value) (σ : dS), den mX7_flatOf 21 [l0, some (.int x), l2, l3, l4] st σ = den mX7_flatOf 22 [l0, some (.int x), l2, l3, l4] (.int x :: st) σ) ∧
  (∀ (l0 l1 l2 l3 l4 : Option Value) (a0 : Int32) (q : Nat) (σ : dS), den mX7_flatOf 22 [l0, l1, l2, l3, l4] [.int a0, .ref q] σ = if disO σ q 6 = true then ((dcall mX7_ifOf [.ref q, .int a0] σ).bind fun r => den mX7_flatOf 25 [l0, l1, l2, l3, l4] (r.1.toList ++ []) r.2) else none) ∧
  (∀ (l0 l2 l3 l4 : Option Value) (x : Int32) (y : Int32) (st : List Value) (σ : dS), den mX7_flatOf 25 [l0, some (.int y), l2, l3, l4] (.int x :: st) σ = den mX7_flatOf 26 [l0, some (.int y), some (.int x), l3, l4] st σ) ∧
  (∀ (l0 l1 l2 l3 l4 : Option Value) (st : List Value) (σ : dS), den mX7_flatOf 26 [l0, l1, l2, l3, l4] st σ = den mX7_flatOf 27 [l0, l1, l2, l3, l4] (.int (nI 1) :: st) σ) ∧
  (∀ (l0 l1 l3 l4 : Option Value) (x : Int32) (y : Int32) (st : List Value) (σ : dS), den mX7_flatOf 27 [l0, l1, some (.int y), l3, l4] (.int x :: st) σ = den mX7_flatOf 28 [l0, l1, some (.int y), some (.int x), l4] st σ) ∧
  (∀ (l0 l2 l3 l4 : Option Value) (x : Int32) (st : List Value) (σ : dS), den mX7_flatOf 28 [l0, some (.int x), l2, l3, l4] st σ = den mX7_flatOf 29 [l0, some (.int x), l2, l3, l4] (.int x :: st) σ) ∧
  (∀ (l0 l1 l2 l3 l4 : Option Value) (st : List Value) (σ : dS), den mX7_flatOf 29 [l0, l1, l2, l3, l4] st σ = den mX7_flatOf 30 [l0, l1, l2, l3, l4] (.int (nI 1) :: st) σ) ∧
  (∀ (l0 l1 l2 l3 l4 : Option Value) (x y : Int32) (st : List Value) (σ : dS), den mX7_flatOf 30 [l0, l1, l2, l3, l4] (.int y :: .int x :: st) σ = den mX7_flatOf 31 [l0, l1, l2, l3, l4] (.int (x + y) :: st) σ) ∧
  (∀ (l0 l1 l2 l4 : Option Value) (x : Int32) (y : Int32) (st : List Value) (σ : dS), den mX7_flatOf 31 [l0, l1, l2, some (.int y), l4] (.int x :: st) σ = den mX7_flatOf 33 [l0, l1, l2, some (.int y), some (.int x)] st σ) ∧
  (∀ (l1 l2 l3 l4 : Option Value) (x : Nat) (st : List Value) (σ : dS), den mX7_flatOf 35 [some (.ref x), l1, l2, l3, l4] st σ = den mX7_flatOf 36 [some (.ref x), l1, l2, l3, l4] (.ref x :: st) σ) ∧
  (∀ (l0 l1 l2 l3 l4 : Option Value) (q : Nat) (st : List Value) (σ : dS), den mX7_flatOf 36 [l0, l1, l2, l3, l4] (.ref q :: st) σ = (dget σ q 6 0).bind fun v => den mX7_flatOf 39 [l0, l1, l2, l3, l4] (v :: st) σ) ∧
  (∀ (l0 l1 l2 l3 l4 : Option Value) (st : List Value) (σ : dS), den mX7_flatOf 39 [l0, l1, l2, l3, l4] st σ = den mX7_flatOf 41 [l0, l1, l2, l3, l4] (.int (nI 120) :: st) σ) ∧
  (∀ (l0 l1 l2 l3 l4 : Option Value) (q : Nat) (i : Int32) (st : List Value) (σ : dS), den mX7_flatOf 41 [l0, l1, l2, l3, l4] (.int i :: .ref q :: st) σ = if q ≤ dN then (dald σ q 0 i).bind (fun v => den mX7_flatOf 42 [l0, l1, l2, l3, l4] (.int v :: st) σ) else none) ∧
  (∀ (l0 l1 l2 l3 l4 : Option Value) (x y : Int32) (st : List Value) (σ : dS), den mX7_flatOf 42 [l0, l1, l2, l3, l4] (.int y :: .int x :: st) σ = if x < y then den mX7_flatOf 45 [l0, l1, l2, l3, l4] st σ else den mX7_flatOf 102 [l0, l1, l2, l3, l4] st σ) ∧
  (∀ (l1 l2 l3 l4 : Option Value) (x : Nat) (st : List Value) (σ : dS), den mX7_flatOf 45 [some (.ref x), l1, l2, l3, l4] st σ = den mX7_flatOf 46 [some (.ref x), l1, l2, l3, l4] (.ref x :: st) σ) ∧
  (∀ (l1 l2 l3 l4 : Option Value) (x : Nat) (st : List Value) (σ : dS), den mX7_flatOf 46 [some (.ref x), l1, l2, l3, l4] st σ = den mX7_flatOf 47 [some (.ref x), l1, l2, l3, l4] (.ref x :: st) σ) ∧
  (∀ (l0 l1 l2 l3 : Option Value) (x : Int32) (st : List Value) (σ : dS), den mX7_flatOf 47 [l0, l1, l2, l3, some (.int x)] st σ = den mX7_flatOf 49 [l0, l1, l2, l3, some (.int x)] (.int x :: st) σ) ∧
  (∀ (l0 l1 l2 l3 l4 : Option Value) (st : List Value) (σ : dS), den mX7_flatOf 49 [l0, l1, l2, l3, l4] st σ = den mX7_flatOf 50 [l0, l1, l2, l3, l4] (.int (nI 4) :: st) σ) ∧
  (∀ (l0 l1 l2 l3 l4 : Option Value) (a0 : Int32) (a1 : Int32) (b0 : Nat) (q : Nat) (σ : dS), den mX7_flatOf 50 [l0, l1, l2, l3, l4] [.int a1, .int a0, .ref q, .ref b0] σ = if disO σ q 6 = true then ((dcall mX7_of [.ref q, .int a0, .int a1] σ).bind fun r => den mX7_flatOf 53 [l0, l1, l2, l3, l4] (r.1.toList ++ [.ref b0]) r.2) else none) ∧
  (∀ (l0 l1 l2 l3 l4 : Option Value) (st : List Value) (σ : dS), den mX7_flatOf 53 [l0, l1, l2, l3, l4] st σ = den mX7_flatOf 54 [l0, l1, l2, l3, l4] (.int (nI 2) :: st) σ) ∧
  (∀ (l0 l1 l3 l4 : Option Value) (x : Int32) (st : List Value) (σ : dS), den mX7_flatOf 54 [l0, l1, some (.int x), l3, l4] st σ = den mX7_flatOf 55 [l0, l1, some (.int x), l3, l4] (.int x :: st) σ) ∧
  (∀ (l0 l1 l2 l3 l4 : Option Value) (x y : Int32) (st : List Value) (σ : dS), den mX7_flatOf 55 [l0, l1, l2, l3, l4] (.int y :: .int x :: st) σ = den mX7_flatOf 56 [l0, l1, l2, l3, l4] (.int (x * y) :: st) σ) ∧
  (∀ (l0 l1 l2 l3 l4 : Option Value) (st : List Value) (σ : dS), den mX7_flatOf 56 [l0, l1, l2, l3, l4] st σ = den mX7_flatOf 57 [l0, l1, l2, l3, l4] (.int (nI 1) :: st) σ) ∧
  (∀ (l0 l1 l2 l3 l4 : Option Value) (x y : Int32) (st : List Value) (σ : dS), den mX7_flatOf 57 [l0, l1, l2, l3, l4] (.int y :: .int x :: st) σ = den mX7_flatOf 58 [l0, l1, l2, l3, l4] (.int (x + y) :: st) σ) ∧
  (∀ (l0 l1 l2 l3 l4 : Option Value) (a0 : Int32) (a1 : Int32) (q : Nat) (σ : dS), den mX7_flatOf 58 [l0, l1, l2, l3, l4] [.int a1, .int a0, .ref q] σ = if disO σ q 6 = true then ((dcall mX7_isWithin [.ref q, .int a0, .int a1] σ).bind fun r => den mX7_flatOf 61 [l0, l1, l2, l3, l4] (r.1.toList ++ []) r.2) else none) ∧
  (∀ (l0 l1 l2 l3 l4 : Option Value) (x : Int32) (st : List Value) (σ : dS), den mX7_flatOf 61 [l0, l1, l2, l3, l4] (.int x :: st) σ = if x = 0 then den mX7_flatOf 64 [l0, l1, l2, l3, l4] st σ else den mX7_flatOf 83 [l0, l1, l2, l3, l4] st σ) ∧
  (∀ (l1 l2 l3 l4 : Option Value) (x : Nat) (st : List Value) (σ : dS), den mX7_flatOf 64 [some (.ref x), l1, l2, l3, l4] st σ = den mX7_flatOf 65 [some (.ref x), l1, l2, l3, l4] (.ref x :: st) σ) :=
  ⟨fun l1 l2 l3 l4 x st σ => dn_aload_n eX7_flatOf dX7_flatOf_0 rfl,
  fun l0 l2 l3 l4 x st σ => dn_iload_n eX7_flatOf dX7_flatOf_1 rfl,
  fun l0 l1 l2 l3 l4 st σ => dn_iconst eX7_flatOf dX7_flatOf_2 kc_iconst_0,
  fun l0 l1 l2 l3 l4 a0 a1 q σ => rX7_flatOf_3 l0 l1 l2 l3 l4 a0 a1 q σ,
  fun l0 l1 l2 l3 l4 st σ => dn_iconst eX7_flatOf dX7_flatOf_6 kc_iconst_5,
  fun l0 l1 l2 l3 l4 x y st σ => dn_icmp_eq eX7_flatOf dX7_flatOf_7 (by decide),
  fun l1 l2 l3 l4 x st σ => dn_aload_n eX7_flatOf dX7_flatOf_10 rfl,
  fun l0 l2 l3 l4 x st σ => dn_iload_n eX7_flatOf dX7_flatOf_11 rfl,
  fun l0 l1 l2 l3 l4 st σ => dn_iconst eX7_flatOf dX7_flatOf_12 kc_iconst_0,
  fun l0 l1 l2 l3 l4 a0 a1 q σ => rX7_flatOf_13 l0 l1 l2 l3 l4 a0 a1 q σ,
  fun l0 l1 l2 l3 l4 a0 σ => dn_callS (e := (1, 131, 988)) (as := [.int a0]) (rest := []) eX7_flatOf dX7_flatOf_16 (by decide +kernel) (Or.inl rfl) (by decide +kernel) rfl (dcat_le rfl) (dlen_le rfl) rfl,
  fun l0 l1 l2 l3 l4 v σ => dn_ireturn eX7_flatOf dX7_flatOf_19 rfl,
  fun l1 l2 l3 l4 x st σ => dn_aload_n eX7_flatOf dX7_flatOf_20 rfl,
  fun l0 l2 l3 l4 x st σ => dn_iload_n eX7_flatOf dX7_flatOf_21 rfl,
  fun l0 l1 l2 l3 l4 a0 q σ => rX7_flatOf_22 l0 l1 l2 l3 l4 a0 q σ,
  fun l0 l2 l3 l4 x y st σ => dn_istore_n eX7_flatOf dX7_flatOf_25 rfl,
  fun l0 l1 l2 l3 l4 st σ => dn_iconst eX7_flatOf dX7_flatOf_26 kc_iconst_1,
  fun l0 l1 l3 l4 x y st σ => dn_istore_n eX7_flatOf dX7_flatOf_27 rfl,
  fun l0 l2 l3 l4 x st σ => dn_iload_n eX7_flatOf dX7_flatOf_28 rfl,
  fun l0 l1 l2 l3 l4 st σ => dn_iconst eX7_flatOf dX7_flatOf_29 kc_iconst_1,
  fun l0 l1 l2 l3 l4 x y st σ => dn_iadd eX7_flatOf dX7_flatOf_30,
  fun l0 l1 l2 l4 x y st σ => dn_istore eX7_flatOf dX7_flatOf_31 rfl,
  fun l1 l2 l3 l4 x st σ => dn_aload_n eX7_flatOf dX7_flatOf_35 rfl,
  fun l0 l1 l2 l3 l4 q st σ => dn_getfield (f := (6, 0, 771)) eX7_flatOf dX7_flatOf_36 (by decide +kernel),
  fun l0 l1 l2 l3 l4 st σ => dn_bipush eX7_flatOf dX7_flatOf_39 kc_bipush_120,
  fun l0 l1 l2 l3 l4 q i st σ => dn_iaload eX7_flatOf dX7_flatOf_41,
  fun l0 l1 l2 l3 l4 x y st σ => dn_icmp_ge eX7_flatOf dX7_flatOf_42 (by decide),
  fun l1 l2 l3 l4 x st σ => dn_aload_n eX7_flatOf dX7_flatOf_45 rfl,
  fun l1 l2 l3 l4 x st σ => dn_aload_n eX7_flatOf dX7_flatOf_46 rfl,
  fun l0 l1 l2 l3 x st σ => dn_iload eX7_flatOf dX7_flatOf_47 rfl,
  fun l0 l1 l2 l3 l4 st σ => dn_iconst eX7_flatOf dX7_flatOf_49 kc_iconst_4,
  fun l0 l1 l2 l3 l4 a0 a1 b0 q σ => rX7_flatOf_50 l0 l1 l2 l3 l4 a0 a1 b0 q σ,
  fun l0 l1 l2 l3 l4 st σ => dn_iconst eX7_flatOf dX7_flatOf_53 kc_iconst_2,
  fun l0 l1 l3 l4 x st σ => dn_iload_n eX7_flatOf dX7_flatOf_54 rfl,
  fun l0 l1 l2 l3 l4 x y st σ => dn_imul eX7_flatOf dX7_flatOf_55,
  fun l0 l1 l2 l3 l4 st σ => dn_iconst eX7_flatOf dX7_flatOf_56 kc_iconst_1,
  fun l0 l1 l2 l3 l4 x y st σ => dn_iadd eX7_flatOf dX7_flatOf_57,
  fun l0 l1 l2 l3 l4 a0 a1 q σ => rX7_flatOf_58 l0 l1 l2 l3 l4 a0 a1 q σ,
  fun l0 l1 l2 l3 l4 x st σ => dn_if_ne eX7_flatOf dX7_flatOf_61 (by decide),
  fun l1 l2 l3 l4 x st σ => dn_aload_n eX7_flatOf dX7_flatOf_64 rfl⟩
set_option maxRecDepth 20000 in
theorem SX7_flatOf_1 : (∀ (l1 l2 l3 l4 : Option Value) (x : Nat) (st : List Value) (σ : dS), den mX7_flatOf 65 [some (.ref x), l1, l2, l3, l4] st σ = den mX7_flatOf 66 [some (.ref x), l1, l2, l3, l4] (.ref x :: st) σ) ∧
  (∀ (l0 l1 l2 l3 : Option Value) (x : Int32) (st : List Value) (σ : dS), den mX7_flatOf 66 [l0, l1, l2, l3, some (.int x)] st σ = den mX7_flatOf 68 [l0, l1, l2, l3, some (.int x)] (.int x :: st) σ) ∧
  (∀ (l0 l1 l2 l3 l4 : Option Value) (st : List Value) (σ : dS), den mX7_flatOf 68 [l0, l1, l2, l3, l4] st σ = den mX7_flatOf 69 [l0, l1, l2, l3, l4] (.int (nI 4) :: st) σ) ∧
  (∀ (l0 l1 l2 l3 l4 : Option Value) (a0 : Int32) (a1 : Int32) (b0 : Nat) (q : Nat) (σ : dS), den mX7_flatOf 69 [l0, l1, l2, l3, l4] [.int a1, .int a0, .ref q, .ref b0] σ = if disO σ q 6 = true then ((dcall mX7_of [.ref q, .int a0, .int a1] σ).bind fun r => den mX7_flatOf 72 [l0, l1, l2, l3, l4] (r.1.toList ++ [.ref b0]) r.2) else none) ∧
  (∀ (l0 l1 l2 l3 l4 : Option Value) (st : List Value) (σ : dS), den mX7_flatOf 72 [l0, l1, l2, l3, l4] st σ = den mX7_flatOf 73 [l0, l1, l2, l3, l4] (.int (nI 2) :: st) σ) ∧
  (∀ (l0 l1 l3 l4 : Option Value) (x : Int32) (st : List Value) (σ : dS), den mX7_flatOf 73 [l0, l1, some (.int x), l3, l4] st σ = den mX7_flatOf 74 [l0, l1, some (.int x), l3, l4] (.int x :: st) σ) ∧
  (∀ (l0 l1 l2 l3 l4 : Option Value) (x y : Int32) (st : List Value) (σ : dS), den mX7_flatOf 74 [l0, l1, l2, l3, l4] (.int y :: .int x :: st) σ = den mX7_flatOf 75 [l0, l1, l2, l3, l4] (.int (x * y) :: st) σ) ∧
  (∀ (l0 l1 l2 l3 l4 : Option Value) (st : List Value) (σ : dS), den mX7_flatOf 75 [l0, l1, l2, l3, l4] st σ = den mX7_flatOf 76 [l0, l1, l2, l3, l4] (.int (nI 2) :: st) σ) ∧
  (∀ (l0 l1 l2 l3 l4 : Option Value) (x y : Int32) (st : List Value) (σ : dS), den mX7_flatOf 76 [l0, l1, l2, l3, l4] (.int y :: .int x :: st) σ = den mX7_flatOf 77 [l0, l1, l2, l3, l4] (.int (x + y) :: st) σ) ∧
  (∀ (l0 l1 l2 l3 l4 : Option Value) (a0 : Int32) (a1 : Int32) (q : Nat) (σ : dS), den mX7_flatOf 77 [l0, l1, l2, l3, l4] [.int a1, .int a0, .ref q] σ = if disO σ q 6 = true then ((dcall mX7_isWithin [.ref q, .int a0, .int a1] σ).bind fun r => den mX7_flatOf 80 [l0, l1, l2, l3, l4] (r.1.toList ++ []) r.2) else none) ∧
  (∀ (l0 l1 l2 l3 l4 : Option Value) (x : Int32) (st : List Value) (σ : dS), den mX7_flatOf 80 [l0, l1, l2, l3, l4] (.int x :: st) σ = if x = 0 then den mX7_flatOf 96 [l0, l1, l2, l3, l4] st σ else den mX7_flatOf 83 [l0, l1, l2, l3, l4] st σ) ∧
  (∀ (l0 l1 l2 l4 : Option Value) (x : Int32) (st : List Value) (σ : dS), den mX7_flatOf 83 [l0, l1, l2, some (.int x), l4] st σ = den mX7_flatOf 84 [l0, l1, l2, some (.int x), l4] (.int x :: st) σ) ∧
  (∀ (l1 l2 l3 l4 : Option Value) (x : Nat) (st : List Value) (σ : dS), den mX7_flatOf 84 [some (.ref x), l1, l2, l3, l4] st σ = den mX7_flatOf 85 [some (.ref x), l1, l2, l3, l4] (.ref x :: st) σ) ∧
  (∀ (l0 l1 l2 l3 : Option Value) (x : Int32) (st : List Value) (σ : dS), den mX7_flatOf 85 [l0, l1, l2, l3, some (.int x)] st σ = den mX7_flatOf 87 [l0, l1, l2, l3, some (.int x)] (.int x :: st) σ) ∧
  (∀ (l0 l1 l2 l3 l4 : Option Value) (st : List Value) (σ : dS), den mX7_flatOf 87 [l0, l1, l2, l3, l4] st σ = den mX7_flatOf 88 [l0, l1, l2, l3, l4] (.int (nI 0) :: st) σ) ∧
  (∀ (l0 l1 l2 l3 l4 : Option Value) (a0 : Int32) (a1 : Int32) (b0 : Int32) (q : Nat) (σ : dS), den mX7_flatOf 88 [l0, l1, l2, l3, l4] [.int a1, .int a0, .ref q, .int b0] σ = if disO σ q 6 = true then ((dcall mX7_of [.ref q, .int a0, .int a1] σ).bind fun r => den mX7_flatOf 91 [l0, l1, l2, l3, l4] (r.1.toList ++ [.int b0]) r.2) else none) ∧
  (∀ (l0 l1 l2 l3 l4 : Option Value) (a0 : Int32) (b0 : Int32) (σ : dS), den mX7_flatOf 91 [l0, l1, l2, l3, l4] [.int a0, .int b0] σ = (dcall mX7_costOf [.int a0] σ).bind fun r => den mX7_flatOf 94 [l0, l1, l2, l3, l4] (r.1.toList ++ [.int b0]) r.2) ∧
  (∀ (l0 l1 l2 l3 l4 : Option Value) (x y : Int32) (st : List Value) (σ : dS), den mX7_flatOf 94 [l0, l1, l2, l3, l4] (.int y :: .int x :: st) σ = den mX7_flatOf 95 [l0, l1, l2, l3, l4] (.int (x + y) :: st) σ) ∧
  (∀ (l0 l1 l3 l4 : Option Value) (x : Int32) (y : Int32) (st : List Value) (σ : dS), den mX7_flatOf 95 [l0, l1, some (.int y), l3, l4] (.int x :: st) σ = den mX7_flatOf 96 [l0, l1, some (.int y), some (.int x), l4] st σ) ∧
  (∀ (l0 l1 l2 : Option Value) (x : Int32) (y : Int32) (st : List Value) (σ : dS), den mX7_flatOf 96 [l0, l1, l2, some (.int y), some (.int x)] st σ = den mX7_flatOf 99 [l0, l1, l2, some (.int y), some (.int (x + nI 1))] st σ) ∧
  (∀ (l0 l1 l2 l3 l4 : Option Value) (st : List Value) (σ : dS), den mX7_flatOf 99 [l0, l1, l2, l3, l4] st σ = den mX7_flatOf 33 [l0, l1, l2, l3, l4] st σ) ∧
  (∀ (l0 l1 l2 l4 : Option Value) (x : Int32) (st : List Value) (σ : dS), den mX7_flatOf 102 [l0, l1, l2, some (.int x), l4] st σ = den mX7_flatOf 103 [l0, l1, l2, some (.int x), l4] (.int x :: st) σ) ∧
  (∀ (l0 l1 l2 l3 l4 : Option Value) (v : Int32) (σ : dS), den mX7_flatOf 103 [l0, l1, l2, l3, l4] [.int v] σ = some (some (.int v), σ)) :=
  ⟨fun l1 l2 l3 l4 x st σ => dn_aload_n eX7_flatOf dX7_flatOf_65 rfl,
  fun l0 l1 l2 l3 x st σ => dn_iload eX7_flatOf dX7_flatOf_66 rfl,
  fun l0 l1 l2 l3 l4 st σ => dn_iconst eX7_flatOf dX7_flatOf_68 kc_iconst_4,
  fun l0 l1 l2 l3 l4 a0 a1 b0 q σ => rX7_flatOf_69 l0 l1 l2 l3 l4 a0 a1 b0 q σ,
  fun l0 l1 l2 l3 l4 st σ => dn_iconst eX7_flatOf dX7_flatOf_72 kc_iconst_2,
  fun l0 l1 l3 l4 x st σ => dn_iload_n eX7_flatOf dX7_flatOf_73 rfl,
  fun l0 l1 l2 l3 l4 x y st σ => dn_imul eX7_flatOf dX7_flatOf_74,
  fun l0 l1 l2 l3 l4 st σ => dn_iconst eX7_flatOf dX7_flatOf_75 kc_iconst_2,
  fun l0 l1 l2 l3 l4 x y st σ => dn_iadd eX7_flatOf dX7_flatOf_76,
  fun l0 l1 l2 l3 l4 a0 a1 q σ => rX7_flatOf_77 l0 l1 l2 l3 l4 a0 a1 q σ,
  fun l0 l1 l2 l3 l4 x st σ => dn_if_eq eX7_flatOf dX7_flatOf_80 (by decide),
  fun l0 l1 l2 l4 x st σ => dn_iload_n eX7_flatOf dX7_flatOf_83 rfl,
  fun l1 l2 l3 l4 x st σ => dn_aload_n eX7_flatOf dX7_flatOf_84 rfl,
  fun l0 l1 l2 l3 x st σ => dn_iload eX7_flatOf dX7_flatOf_85 rfl,
  fun l0 l1 l2 l3 l4 st σ => dn_iconst eX7_flatOf dX7_flatOf_87 kc_iconst_0,
  fun l0 l1 l2 l3 l4 a0 a1 b0 q σ => rX7_flatOf_88 l0 l1 l2 l3 l4 a0 a1 b0 q σ,
  fun l0 l1 l2 l3 l4 a0 b0 σ => dn_callS (e := (1, 131, 988)) (as := [.int a0]) (rest := [.int b0]) eX7_flatOf dX7_flatOf_91 (by decide +kernel) (Or.inl rfl) (by decide +kernel) rfl (dcat_le rfl) (dlen_le rfl) rfl,
  fun l0 l1 l2 l3 l4 x y st σ => dn_iadd eX7_flatOf dX7_flatOf_94,
  fun l0 l1 l3 l4 x y st σ => dn_istore_n eX7_flatOf dX7_flatOf_95 rfl,
  fun l0 l1 l2 x y st σ => dn_iinc (v := nI 1) eX7_flatOf dX7_flatOf_96 rfl kc_iconst_1 rfl,
  fun l0 l1 l2 l3 l4 st σ => dn_goto eX7_flatOf dX7_flatOf_99 (by decide),
  fun l0 l1 l2 l4 x st σ => dn_iload_n eX7_flatOf dX7_flatOf_102 rfl,
  fun l0 l1 l2 l3 l4 v σ => dn_ireturn eX7_flatOf dX7_flatOf_103 rfl⟩
theorem CX7_flatOfAll (a0 : Nat) (σ : dS) : dcall mX7_flatOfAll [.ref a0] σ = den mX7_flatOfAll 0 [some (.ref a0), none, none] [] σ := dcall_den (by decide) rfl
theorem hX7_flatOfAll_4 (l0 l1 : Option Value) (x : Int32) (st : List Value) (σ : dS) : den mX7_flatOfAll 4 [l0, l1, some (.int x)] st σ = den mX7_flatOfAll 5 [l0, l1, some (.int x)] (.int x :: st) σ := dn_iload_n eX7_flatOfAll dX7_flatOfAll_4 rfl
theorem rX7_flatOfAll_19 (l0 l1 l2 : Option Value) (a0 : Int32) (a1 : Int32) (b0 : Int32) (q : Nat) (σ : dS) : den mX7_flatOfAll 19 [l0, l1, l2] [.int a1, .int a0, .ref q, .int b0] σ = if disO σ q 6 = true then ((dcall mX7_of [.ref q, .int a0, .int a1] σ).bind fun r => den mX7_flatOfAll 22 [l0, l1, l2] (r.1.toList ++ [.int b0]) r.2) else none := by
  by_cases h : disO σ q 6 = true
  · rw [if_pos h]; exact dn_callV (e := (0, 120, 947)) (as := [.int a0, .int a1]) (rest := [.int b0]) eX7_flatOfAll dX7_flatOfAll_19 (by decide +kernel) rfl (by decide +kernel) rfl (dcat_le rfl) (dlen_le rfl) rfl h
  · rw [if_neg h]; exact den_noV (e := (0, 120, 947)) (as := [.int a0, .int a1]) (rest := [.int b0]) eX7_flatOfAll dX7_flatOfAll_19 (by decide +kernel) rfl rfl rfl h
set_option maxRecDepth 20000 in
theorem SX7_flatOfAll : (∀ (l0 l1 l2 : Option Value) (st : List Value) (σ : dS), den mX7_flatOfAll 0 [l0, l1, l2] st σ = den mX7_flatOfAll 1 [l0, l1, l2] (.int (nI 0) :: st) σ) ∧
  (∀ (l1 l2 : Option Value) (x : Int32) (y : Nat) (st : List Value) (σ : dS), den mX7_flatOfAll 1 [some (.ref y), l1, l2] (.int x :: st) σ = den mX7_flatOfAll 2 [some (.ref y), some (.int x), l2] st σ) ∧
  (∀ (l0 l1 l2 : Option Value) (st : List Value) (σ : dS), den mX7_flatOfAll 2 [l0, l1, l2] st σ = den mX7_flatOfAll 3 [l0, l1, l2] (.int (nI 0) :: st) σ) ∧
  (∀ (l0 l2 : Option Value) (x : Int32) (y : Int32) (st : List Value) (σ : dS), den mX7_flatOfAll 3 [l0, some (.int y), l2] (.int x :: st) σ = den mX7_flatOfAll 4 [l0, some (.int y), some (.int x)] st σ) ∧
  (∀ (l1 l2 : Option Value) (x : Nat) (st : List Value) (σ : dS), den mX7_flatOfAll 5 [some (.ref x), l1, l2] st σ = den mX7_flatOfAll 6 [some (.ref x), l1, l2] (.ref x :: st) σ) ∧
  (∀ (l0 l1 l2 : Option Value) (q : Nat) (st : List Value) (σ : dS), den mX7_flatOfAll 6 [l0, l1, l2] (.ref q :: st) σ = (dget σ q 6 0).bind fun v => den mX7_flatOfAll 9 [l0, l1, l2] (v :: st) σ) ∧
  (∀ (l0 l1 l2 : Option Value) (st : List Value) (σ : dS), den mX7_flatOfAll 9 [l0, l1, l2] st σ = den mX7_flatOfAll 11 [l0, l1, l2] (.int (nI 120) :: st) σ) ∧
  (∀ (l0 l1 l2 : Option Value) (q : Nat) (i : Int32) (st : List Value) (σ : dS), den mX7_flatOfAll 11 [l0, l1, l2] (.int i :: .ref q :: st) σ = if q ≤ dN then (dald σ q 0 i).bind (fun v => den mX7_flatOfAll 12 [l0, l1, l2] (.int v :: st) σ) else none) ∧
  (∀ (l0 l1 l2 : Option Value) (x y : Int32) (st : List Value) (σ : dS), den mX7_flatOfAll 12 [l0, l1, l2] (.int y :: .int x :: st) σ = if x < y then den mX7_flatOfAll 15 [l0, l1, l2] st σ else den mX7_flatOfAll 33 [l0, l1, l2] st σ) ∧
  (∀ (l0 l2 : Option Value) (x : Int32) (st : List Value) (σ : dS), den mX7_flatOfAll 15 [l0, some (.int x), l2] st σ = den mX7_flatOfAll 16 [l0, some (.int x), l2] (.int x :: st) σ) ∧
  (∀ (l1 l2 : Option Value) (x : Nat) (st : List Value) (σ : dS), den mX7_flatOfAll 16 [some (.ref x), l1, l2] st σ = den mX7_flatOfAll 17 [some (.ref x), l1, l2] (.ref x :: st) σ) ∧
  (∀ (l0 l1 : Option Value) (x : Int32) (st : List Value) (σ : dS), den mX7_flatOfAll 17 [l0, l1, some (.int x)] st σ = den mX7_flatOfAll 18 [l0, l1, some (.int x)] (.int x :: st) σ) ∧
  (∀ (l0 l1 l2 : Option Value) (st : List Value) (σ : dS), den mX7_flatOfAll 18 [l0, l1, l2] st σ = den mX7_flatOfAll 19 [l0, l1, l2] (.int (nI 0) :: st) σ) ∧
  (∀ (l0 l1 l2 : Option Value) (a0 : Int32) (a1 : Int32) (b0 : Int32) (q : Nat) (σ : dS), den mX7_flatOfAll 19 [l0, l1, l2] [.int a1, .int a0, .ref q, .int b0] σ = if disO σ q 6 = true then ((dcall mX7_of [.ref q, .int a0, .int a1] σ).bind fun r => den mX7_flatOfAll 22 [l0, l1, l2] (r.1.toList ++ [.int b0]) r.2) else none) ∧
  (∀ (l0 l1 l2 : Option Value) (a0 : Int32) (b0 : Int32) (σ : dS), den mX7_flatOfAll 22 [l0, l1, l2] [.int a0, .int b0] σ = (dcall mX7_costOf [.int a0] σ).bind fun r => den mX7_flatOfAll 25 [l0, l1, l2] (r.1.toList ++ [.int b0]) r.2) ∧
  (∀ (l0 l1 l2 : Option Value) (x y : Int32) (st : List Value) (σ : dS), den mX7_flatOfAll 25 [l0, l1, l2] (.int y :: .int x :: st) σ = den mX7_flatOfAll 26 [l0, l1, l2] (.int (x + y) :: st) σ) ∧
  (∀ (l1 l2 : Option Value) (x : Int32) (y : Nat) (st : List Value) (σ : dS), den mX7_flatOfAll 26 [some (.ref y), l1, l2] (.int x :: st) σ = den mX7_flatOfAll 27 [some (.ref y), some (.int x), l2] st σ) ∧
  (∀ (l0 : Option Value) (x : Int32) (y : Int32) (st : List Value) (σ : dS), den mX7_flatOfAll 27 [l0, some (.int y), some (.int x)] st σ = den mX7_flatOfAll 30 [l0, some (.int y), some (.int (x + nI 1))] st σ) ∧
  (∀ (l0 l1 l2 : Option Value) (st : List Value) (σ : dS), den mX7_flatOfAll 30 [l0, l1, l2] st σ = den mX7_flatOfAll 4 [l0, l1, l2] st σ) ∧
  (∀ (l0 l2 : Option Value) (x : Int32) (st : List Value) (σ : dS), den mX7_flatOfAll 33 [l0, some (.int x), l2] st σ = den mX7_flatOfAll 34 [l0, some (.int x), l2] (.int x :: st) σ) ∧
  (∀ (l0 l1 l2 : Option Value) (v : Int32) (σ : dS), den mX7_flatOfAll 34 [l0, l1, l2] [.int v] σ = some (some (.int v), σ)) :=
  ⟨fun l0 l1 l2 st σ => dn_iconst eX7_flatOfAll dX7_flatOfAll_0 kc_iconst_0,
  fun l1 l2 x y st σ => dn_istore_n eX7_flatOfAll dX7_flatOfAll_1 rfl,
  fun l0 l1 l2 st σ => dn_iconst eX7_flatOfAll dX7_flatOfAll_2 kc_iconst_0,
  fun l0 l2 x y st σ => dn_istore_n eX7_flatOfAll dX7_flatOfAll_3 rfl,
  fun l1 l2 x st σ => dn_aload_n eX7_flatOfAll dX7_flatOfAll_5 rfl,
  fun l0 l1 l2 q st σ => dn_getfield (f := (6, 0, 771)) eX7_flatOfAll dX7_flatOfAll_6 (by decide +kernel),
  fun l0 l1 l2 st σ => dn_bipush eX7_flatOfAll dX7_flatOfAll_9 kc_bipush_120,
  fun l0 l1 l2 q i st σ => dn_iaload eX7_flatOfAll dX7_flatOfAll_11,
  fun l0 l1 l2 x y st σ => dn_icmp_ge eX7_flatOfAll dX7_flatOfAll_12 (by decide),
  fun l0 l2 x st σ => dn_iload_n eX7_flatOfAll dX7_flatOfAll_15 rfl,
  fun l1 l2 x st σ => dn_aload_n eX7_flatOfAll dX7_flatOfAll_16 rfl,
  fun l0 l1 x st σ => dn_iload_n eX7_flatOfAll dX7_flatOfAll_17 rfl,
  fun l0 l1 l2 st σ => dn_iconst eX7_flatOfAll dX7_flatOfAll_18 kc_iconst_0,
  fun l0 l1 l2 a0 a1 b0 q σ => rX7_flatOfAll_19 l0 l1 l2 a0 a1 b0 q σ,
  fun l0 l1 l2 a0 b0 σ => dn_callS (e := (1, 131, 988)) (as := [.int a0]) (rest := [.int b0]) eX7_flatOfAll dX7_flatOfAll_22 (by decide +kernel) (Or.inl rfl) (by decide +kernel) rfl (dcat_le rfl) (dlen_le rfl) rfl,
  fun l0 l1 l2 x y st σ => dn_iadd eX7_flatOfAll dX7_flatOfAll_25,
  fun l1 l2 x y st σ => dn_istore_n eX7_flatOfAll dX7_flatOfAll_26 rfl,
  fun l0 x y st σ => dn_iinc (v := nI 1) eX7_flatOfAll dX7_flatOfAll_27 rfl kc_iconst_1 rfl,
  fun l0 l1 l2 st σ => dn_goto eX7_flatOfAll dX7_flatOfAll_30 (by decide),
  fun l0 l2 x st σ => dn_iload_n eX7_flatOfAll dX7_flatOfAll_33 rfl,
  fun l0 l1 l2 v σ => dn_ireturn eX7_flatOfAll dX7_flatOfAll_34 rfl⟩
theorem CX7_deepest (a0 : Nat) (σ : dS) : dcall mX7_deepest [.ref a0] σ = den mX7_deepest 0 [some (.ref a0), none, none, none] [] σ := dcall_den (by decide) rfl
theorem hX7_deepest_4 (l0 l1 l3 : Option Value) (x : Int32) (st : List Value) (σ : dS) : den mX7_deepest 4 [l0, l1, some (.int x), l3] st σ = den mX7_deepest 5 [l0, l1, some (.int x), l3] (.int x :: st) σ := dn_iload_n eX7_deepest dX7_deepest_4 rfl
theorem rX7_deepest_7 (l0 l1 l2 l3 : Option Value) (b0 : Int32) (b1 : Int32) (q : Nat) (σ : dS) : den mX7_deepest 7 [l0, l1, l2, l3] [.ref q, .int b0, .int b1] σ = if disO σ q 6 = true then ((dcall mX7_ifs [.ref q] σ).bind fun r => den mX7_deepest 10 [l0, l1, l2, l3] (r.1.toList ++ [.int b0, .int b1]) r.2) else none := by
  by_cases h : disO σ q 6 = true
  · rw [if_pos h]; exact dn_callV (e := (0, 122, 943)) (as := []) (rest := [.int b0, .int b1]) eX7_deepest dX7_deepest_7 (by decide +kernel) rfl (by decide +kernel) rfl (dcat_le rfl) (dlen_le rfl) rfl h
  · rw [if_neg h]; exact den_noV (e := (0, 122, 943)) (as := []) (rest := [.int b0, .int b1]) eX7_deepest dX7_deepest_7 (by decide +kernel) rfl rfl rfl h
theorem rX7_deepest_16 (l0 l1 l2 l3 : Option Value) (a0 : Int32) (q : Nat) (σ : dS) : den mX7_deepest 16 [l0, l1, l2, l3] [.int a0, .ref q] σ = if disO σ q 6 = true then ((dcall mX7_depthOf [.ref q, .int a0] σ).bind fun r => den mX7_deepest 19 [l0, l1, l2, l3] (r.1.toList ++ []) r.2) else none := by
  by_cases h : disO σ q 6 = true
  · rw [if_pos h]; exact dn_callV (e := (0, 129, 958)) (as := [.int a0]) (rest := []) eX7_deepest dX7_deepest_16 (by decide +kernel) rfl (by decide +kernel) rfl (dcat_le rfl) (dlen_le rfl) rfl h
  · rw [if_neg h]; exact den_noV (e := (0, 129, 958)) (as := [.int a0]) (rest := []) eX7_deepest dX7_deepest_16 (by decide +kernel) rfl rfl rfl h
set_option maxRecDepth 20000 in
theorem SX7_deepest : (∀ (l0 l1 l2 l3 : Option Value) (st : List Value) (σ : dS), den mX7_deepest 0 [l0, l1, l2, l3] st σ = den mX7_deepest 1 [l0, l1, l2, l3] (.int (nI 0) :: st) σ) ∧
  (∀ (l1 l2 l3 : Option Value) (x : Int32) (y : Nat) (st : List Value) (σ : dS), den mX7_deepest 1 [some (.ref y), l1, l2, l3] (.int x :: st) σ = den mX7_deepest 2 [some (.ref y), some (.int x), l2, l3] st σ) ∧
  (∀ (l0 l1 l2 l3 : Option Value) (st : List Value) (σ : dS), den mX7_deepest 2 [l0, l1, l2, l3] st σ = den mX7_deepest 3 [l0, l1, l2, l3] (.int (nI 0) :: st) σ) ∧
  (∀ (l0 l2 l3 : Option Value) (x : Int32) (y : Int32) (st : List Value) (σ : dS), den mX7_deepest 3 [l0, some (.int y), l2, l3] (.int x :: st) σ = den mX7_deepest 4 [l0, some (.int y), some (.int x), l3] st σ) ∧
  (∀ (l0 l1 l2 l3 : Option Value) (st : List Value) (σ : dS), den mX7_deepest 5 [l0, l1, l2, l3] st σ = den mX7_deepest 6 [l0, l1, l2, l3] (.int (nI 2) :: st) σ) ∧
  (∀ (l1 l2 l3 : Option Value) (x : Nat) (st : List Value) (σ : dS), den mX7_deepest 6 [some (.ref x), l1, l2, l3] st σ = den mX7_deepest 7 [some (.ref x), l1, l2, l3] (.ref x :: st) σ) ∧
  (∀ (l0 l1 l2 l3 : Option Value) (b0 : Int32) (b1 : Int32) (q : Nat) (σ : dS), den mX7_deepest 7 [l0, l1, l2, l3] [.ref q, .int b0, .int b1] σ = if disO σ q 6 = true then ((dcall mX7_ifs [.ref q] σ).bind fun r => den mX7_deepest 10 [l0, l1, l2, l3] (r.1.toList ++ [.int b0, .int b1]) r.2) else none) ∧
  (∀ (l0 l1 l2 l3 : Option Value) (x y : Int32) (st : List Value) (σ : dS), den mX7_deepest 10 [l0, l1, l2, l3] (.int y :: .int x :: st) σ = den mX7_deepest 11 [l0, l1, l2, l3] (.int (x * y) :: st) σ) ∧
  (∀ (l0 l1 l2 l3 : Option Value) (x y : Int32) (st : List Value) (σ : dS), den mX7_deepest 11 [l0, l1, l2, l3] (.int y :: .int x :: st) σ = if y < x then den mX7_deepest 37 [l0, l1, l2, l3] st σ else den mX7_deepest 14 [l0, l1, l2, l3] st σ) ∧
  (∀ (l1 l2 l3 : Option Value) (x : Nat) (st : List Value) (σ : dS), den mX7_deepest 14 [some (.ref x), l1, l2, l3] st σ = den mX7_deepest 15 [some (.ref x), l1, l2, l3] (.ref x :: st) σ) ∧
  (∀ (l0 l1 l3 : Option Value) (x : Int32) (st : List Value) (σ : dS), den mX7_deepest 15 [l0, l1, some (.int x), l3] st σ = den mX7_deepest 16 [l0, l1, some (.int x), l3] (.int x :: st) σ) ∧
  (∀ (l0 l1 l2 l3 : Option Value) (a0 : Int32) (q : Nat) (σ : dS), den mX7_deepest 16 [l0, l1, l2, l3] [.int a0, .ref q] σ = if disO σ q 6 = true then ((dcall mX7_depthOf [.ref q, .int a0] σ).bind fun r => den mX7_deepest 19 [l0, l1, l2, l3] (r.1.toList ++ []) r.2) else none) ∧
  (∀ (l0 l1 l3 : Option Value) (x : Int32) (y : Int32) (st : List Value) (σ : dS), den mX7_deepest 19 [l0, l1, some (.int y), l3] (.int x :: st) σ = den mX7_deepest 20 [l0, l1, some (.int y), some (.int x)] st σ) ∧
  (∀ (l0 l1 l2 : Option Value) (x : Int32) (st : List Value) (σ : dS), den mX7_deepest 20 [l0, l1, l2, some (.int x)] st σ = den mX7_deepest 21 [l0, l1, l2, some (.int x)] (.int x :: st) σ) ∧
  (∀ (l0 l2 l3 : Option Value) (x : Int32) (st : List Value) (σ : dS), den mX7_deepest 21 [l0, some (.int x), l2, l3] st σ = den mX7_deepest 22 [l0, some (.int x), l2, l3] (.int x :: st) σ) ∧
  (∀ (l0 l1 l2 l3 : Option Value) (x y : Int32) (st : List Value) (σ : dS), den mX7_deepest 22 [l0, l1, l2, l3] (.int y :: .int x :: st) σ = if y < x then den mX7_deepest 25 [l0, l1, l2, l3] st σ else den mX7_deepest 29 [l0, l1, l2, l3] st σ) ∧
  (∀ (l0 l1 l2 : Option Value) (x : Int32) (st : List Value) (σ : dS), den mX7_deepest 25 [l0, l1, l2, some (.int x)] st σ = den mX7_deepest 26 [l0, l1, l2, some (.int x)] (.int x :: st) σ) ∧
  (∀ (l0 l1 l2 l3 : Option Value) (st : List Value) (σ : dS), den mX7_deepest 26 [l0, l1, l2, l3] st σ = den mX7_deepest 30 [l0, l1, l2, l3] st σ) ∧
  (∀ (l0 l2 l3 : Option Value) (x : Int32) (st : List Value) (σ : dS), den mX7_deepest 29 [l0, some (.int x), l2, l3] st σ = den mX7_deepest 30 [l0, some (.int x), l2, l3] (.int x :: st) σ) ∧
  (∀ (l1 l2 l3 : Option Value) (x : Int32) (y : Nat) (st : List Value) (σ : dS), den mX7_deepest 30 [some (.ref y), l1, l2, l3] (.int x :: st) σ = den mX7_deepest 31 [some (.ref y), some (.int x), l2, l3] st σ) ∧
  (∀ (l0 l3 : Option Value) (x : Int32) (y : Int32) (st : List Value) (σ : dS), den mX7_deepest 31 [l0, some (.int y), some (.int x), l3] st σ = den mX7_deepest 34 [l0, some (.int y), some (.int (x + nI 1)), l3] st σ) ∧
  (∀ (l0 l1 l2 l3 : Option Value) (st : List Value) (σ : dS), den mX7_deepest 34 [l0, l1, l2, l3] st σ = den mX7_deepest 4 [l0, l1, l2, l3] st σ) ∧
  (∀ (l0 l2 l3 : Option Value) (x : Int32) (st : List Value) (σ : dS), den mX7_deepest 37 [l0, some (.int x), l2, l3] st σ = den mX7_deepest 38 [l0, some (.int x), l2, l3] (.int x :: st) σ) ∧
  (∀ (l0 l1 l2 l3 : Option Value) (v : Int32) (σ : dS), den mX7_deepest 38 [l0, l1, l2, l3] [.int v] σ = some (some (.int v), σ)) :=
  ⟨fun l0 l1 l2 l3 st σ => dn_iconst eX7_deepest dX7_deepest_0 kc_iconst_0,
  fun l1 l2 l3 x y st σ => dn_istore_n eX7_deepest dX7_deepest_1 rfl,
  fun l0 l1 l2 l3 st σ => dn_iconst eX7_deepest dX7_deepest_2 kc_iconst_0,
  fun l0 l2 l3 x y st σ => dn_istore_n eX7_deepest dX7_deepest_3 rfl,
  fun l0 l1 l2 l3 st σ => dn_iconst eX7_deepest dX7_deepest_5 kc_iconst_2,
  fun l1 l2 l3 x st σ => dn_aload_n eX7_deepest dX7_deepest_6 rfl,
  fun l0 l1 l2 l3 b0 b1 q σ => rX7_deepest_7 l0 l1 l2 l3 b0 b1 q σ,
  fun l0 l1 l2 l3 x y st σ => dn_imul eX7_deepest dX7_deepest_10,
  fun l0 l1 l2 l3 x y st σ => dn_icmp_gt eX7_deepest dX7_deepest_11 (by decide),
  fun l1 l2 l3 x st σ => dn_aload_n eX7_deepest dX7_deepest_14 rfl,
  fun l0 l1 l3 x st σ => dn_iload_n eX7_deepest dX7_deepest_15 rfl,
  fun l0 l1 l2 l3 a0 q σ => rX7_deepest_16 l0 l1 l2 l3 a0 q σ,
  fun l0 l1 l3 x y st σ => dn_istore_n eX7_deepest dX7_deepest_19 rfl,
  fun l0 l1 l2 x st σ => dn_iload_n eX7_deepest dX7_deepest_20 rfl,
  fun l0 l2 l3 x st σ => dn_iload_n eX7_deepest dX7_deepest_21 rfl,
  fun l0 l1 l2 l3 x y st σ => dn_icmp_le eX7_deepest dX7_deepest_22 (by decide),
  fun l0 l1 l2 x st σ => dn_iload_n eX7_deepest dX7_deepest_25 rfl,
  fun l0 l1 l2 l3 st σ => dn_goto eX7_deepest dX7_deepest_26 (by decide),
  fun l0 l2 l3 x st σ => dn_iload_n eX7_deepest dX7_deepest_29 rfl,
  fun l1 l2 l3 x y st σ => dn_istore_n eX7_deepest dX7_deepest_30 rfl,
  fun l0 l3 x y st σ => dn_iinc (v := nI 1) eX7_deepest dX7_deepest_31 rfl kc_iconst_1 rfl,
  fun l0 l1 l2 l3 st σ => dn_goto eX7_deepest dX7_deepest_34 (by decide),
  fun l0 l2 l3 x st σ => dn_iload_n eX7_deepest dX7_deepest_37 rfl,
  fun l0 l1 l2 l3 v σ => dn_ireturn eX7_deepest dX7_deepest_38 rfl⟩
theorem CX7_meansUnder (a0 : Nat) (a1 : Int32) (σ : dS) : dcall mX7_meansUnder [.ref a0, .int a1] σ = den mX7_meansUnder 0 [some (.ref a0), some (.int a1), none, none, none] [] σ := dcall_den (by decide) rfl
theorem hX7_meansUnder_5 (l0 l1 l2 l3 : Option Value) (x : Int32) (st : List Value) (σ : dS) : den mX7_meansUnder 5 [l0, l1, l2, l3, some (.int x)] st σ = den mX7_meansUnder 7 [l0, l1, l2, l3, some (.int x)] (.int x :: st) σ := dn_iload eX7_meansUnder dX7_meansUnder_5 rfl
theorem rX7_meansUnder_21 (l0 l1 l2 l3 l4 : Option Value) (a0 : Int32) (a1 : Int32) (q : Nat) (σ : dS) : den mX7_meansUnder 21 [l0, l1, l2, l3, l4] [.int a1, .int a0, .ref q] σ = if disO σ q 6 = true then ((dcall mX7_of [.ref q, .int a0, .int a1] σ).bind fun r => den mX7_meansUnder 24 [l0, l1, l2, l3, l4] (r.1.toList ++ []) r.2) else none := by
  by_cases h : disO σ q 6 = true
  · rw [if_pos h]; exact dn_callV (e := (0, 120, 947)) (as := [.int a0, .int a1]) (rest := []) eX7_meansUnder dX7_meansUnder_21 (by decide +kernel) rfl (by decide +kernel) rfl (dcat_le rfl) (dlen_le rfl) rfl h
  · rw [if_neg h]; exact den_noV (e := (0, 120, 947)) (as := [.int a0, .int a1]) (rest := []) eX7_meansUnder dX7_meansUnder_21 (by decide +kernel) rfl rfl rfl h
theorem rX7_meansUnder_33 (l0 l1 l2 l3 l4 : Option Value) (a0 : Int32) (a1 : Int32) (b0 : Int64) (q : Nat) (σ : dS) : den mX7_meansUnder 33 [l0, l1, l2, l3, l4] [.int a1, .int a0, .ref q, .long b0] σ = if disO σ q 6 = true then ((dcall mX7_of [.ref q, .int a0, .int a1] σ).bind fun r => den mX7_meansUnder 36 [l0, l1, l2, l3, l4] (r.1.toList ++ [.long b0]) r.2) else none := by
  by_cases h : disO σ q 6 = true
  · rw [if_pos h]; exact dn_callV (e := (0, 120, 947)) (as := [.int a0, .int a1]) (rest := [.long b0]) eX7_meansUnder dX7_meansUnder_33 (by decide +kernel) rfl (by decide +kernel) rfl (dcat_le rfl) (dlen_le rfl) rfl h
  · rw [if_neg h]; exact den_noV (e := (0, 120, 947)) (as := [.int a0, .int a1]) (rest := [.long b0]) eX7_meansUnder dX7_meansUnder_33 (by decide +kernel) rfl rfl rfl h
theorem rX7_meansUnder_47 (l0 l1 l2 l3 l4 : Option Value) (a0 : Int32) (b0 : Nat) (b1 : Int64) (q : Nat) (σ : dS) : den mX7_meansUnder 47 [l0, l1, l2, l3, l4] [.int a0, .ref q, .ref b0, .long b1] σ = if disO σ q 6 = true then ((dcall mX7_ifOf [.ref q, .int a0] σ).bind fun r => den mX7_meansUnder 50 [l0, l1, l2, l3, l4] (r.1.toList ++ [.ref b0, .long b1]) r.2) else none := by
  by_cases h : disO σ q 6 = true
  · rw [if_pos h]; exact dn_callV (e := (0, 124, 983)) (as := [.int a0]) (rest := [.ref b0, .long b1]) eX7_meansUnder dX7_meansUnder_47 (by decide +kernel) rfl (by decide +kernel) rfl (dcat_le rfl) (dlen_le rfl) rfl h
  · rw [if_neg h]; exact den_noV (e := (0, 124, 983)) (as := [.int a0]) (rest := [.ref b0, .long b1]) eX7_meansUnder dX7_meansUnder_47 (by decide +kernel) rfl rfl rfl h
theorem rX7_meansUnder_61 (l0 l1 l2 l3 l4 : Option Value) (a0 : Int32) (a1 : Int32) (b0 : Int64) (b1 : Int64) (q : Nat) (σ : dS) : den mX7_meansUnder 61 [l0, l1, l2, l3, l4] [.int a1, .int a0, .ref q, .long b0, .long b1] σ = if disO σ q 6 = true then ((dcall mX7_of [.ref q, .int a0, .int a1] σ).bind fun r => den mX7_meansUnder 64 [l0, l1, l2, l3, l4] (r.1.toList ++ [.long b0, .long b1]) r.2) else none := by
  by_cases h : disO σ q 6 = true
  · rw [if_pos h]; exact dn_callV (e := (0, 120, 947)) (as := [.int a0, .int a1]) (rest := [.long b0, .long b1]) eX7_meansUnder dX7_meansUnder_61 (by decide +kernel) rfl (by decide +kernel) rfl (dcat_le rfl) (dlen_le rfl) rfl h
  · rw [if_neg h]; exact den_noV (e := (0, 120, 947)) (as := [.int a0, .int a1]) (rest := [.long b0, .long b1]) eX7_meansUnder dX7_meansUnder_61 (by decide +kernel) rfl rfl rfl h
set_option maxRecDepth 20000 in
theorem SX7_meansUnder_0 : (∀ (l0 l1 l2 l3 l4 : Option Value) (st : List Value) (σ : dS), den mX7_meansUnder 0 [l0, l1, l2, l3, l4] st σ = den mX7_meansUnder 1 [l0, l1, l2, l3, l4] (.long (lN 0) :: st) σ) ∧
  (∀ (l0 l2 l3 l4 : Option Value) (x : Int64) (y : Int32) (st : List Value) (σ : dS), den mX7_meansUnder 1 [l0, some (.int y), l2, l3, l4] (.long x :: st) σ = den mX7_meansUnder 2 [l0, some (.int y), some (.long x), none, l4] st σ) ∧
  (∀ (l0 l1 l2 l3 l4 : Option Value) (st : List Value) (σ : dS), den mX7_meansUnder 2 [l0, l1, l2, l3, l4] st σ = den mX7_meansUnder 3 [l0, l1, l2, l3, l4] (.int (nI 0) :: st) σ) ∧
  (∀ (l0 l1 l2 l4 : Option Value) (x : Int32) (st : List Value) (σ : dS), den mX7_meansUnder 3 [l0, l1, l2, none, l4] (.int x :: st) σ = den mX7_meansUnder 5 [l0, l1, l2, none, some (.int x)] st σ) ∧
  (∀ (l1 l2 l3 l4 : Option Value) (x : Nat) (st : List Value) (σ : dS), den mX7_meansUnder 7 [some (.ref x), l1, l2, l3, l4] st σ = den mX7_meansUnder 8 [some (.ref x), l1, l2, l3, l4] (.ref x :: st) σ) ∧
  (∀ (l0 l1 l2 l3 l4 : Option Value) (q : Nat) (st : List Value) (σ : dS), den mX7_meansUnder 8 [l0, l1, l2, l3, l4] (.ref q :: st) σ = (dget σ q 6 0).bind fun v => den mX7_meansUnder 11 [l0, l1, l2, l3, l4] (v :: st) σ) ∧
  (∀ (l0 l1 l2 l3 l4 : Option Value) (st : List Value) (σ : dS), den mX7_meansUnder 11 [l0, l1, l2, l3, l4] st σ = den mX7_meansUnder 13 [l0, l1, l2, l3, l4] (.int (nI 120) :: st) σ) ∧
  (∀ (l0 l1 l2 l3 l4 : Option Value) (q : Nat) (i : Int32) (st : List Value) (σ : dS), den mX7_meansUnder 13 [l0, l1, l2, l3, l4] (.int i :: .ref q :: st) σ = if q ≤ dN then (dald σ q 0 i).bind (fun v => den mX7_meansUnder 14 [l0, l1, l2, l3, l4] (.int v :: st) σ) else none) ∧
  (∀ (l0 l1 l2 l3 l4 : Option Value) (x y : Int32) (st : List Value) (σ : dS), den mX7_meansUnder 14 [l0, l1, l2, l3, l4] (.int y :: .int x :: st) σ = if x < y then den mX7_meansUnder 17 [l0, l1, l2, l3, l4] st σ else den mX7_meansUnder 77 [l0, l1, l2, l3, l4] st σ) ∧
  (∀ (l1 l2 l3 l4 : Option Value) (x : Nat) (st : List Value) (σ : dS), den mX7_meansUnder 17 [some (.ref x), l1, l2, l3, l4] st σ = den mX7_meansUnder 18 [some (.ref x), l1, l2, l3, l4] (.ref x :: st) σ) ∧
  (∀ (l0 l1 l2 l3 : Option Value) (x : Int32) (st : List Value) (σ : dS), den mX7_meansUnder 18 [l0, l1, l2, l3, some (.int x)] st σ = den mX7_meansUnder 20 [l0, l1, l2, l3, some (.int x)] (.int x :: st) σ) ∧
  (∀ (l0 l1 l2 l3 l4 : Option Value) (st : List Value) (σ : dS), den mX7_meansUnder 20 [l0, l1, l2, l3, l4] st σ = den mX7_meansUnder 21 [l0, l1, l2, l3, l4] (.int (nI 4) :: st) σ) ∧
  (∀ (l0 l1 l2 l3 l4 : Option Value) (a0 : Int32) (a1 : Int32) (q : Nat) (σ : dS), den mX7_meansUnder 21 [l0, l1, l2, l3, l4] [.int a1, .int a0, .ref q] σ = if disO σ q 6 = true then ((dcall mX7_of [.ref q, .int a0, .int a1] σ).bind fun r => den mX7_meansUnder 24 [l0, l1, l2, l3, l4] (r.1.toList ++ []) r.2) else none) ∧
  (∀ (l0 l2 l3 l4 : Option Value) (x : Int32) (st : List Value) (σ : dS), den mX7_meansUnder 24 [l0, some (.int x), l2, l3, l4] st σ = den mX7_meansUnder 25 [l0, some (.int x), l2, l3, l4] (.int x :: st) σ) ∧
  (∀ (l0 l1 l2 l3 l4 : Option Value) (x y : Int32) (st : List Value) (σ : dS), den mX7_meansUnder 25 [l0, l1, l2, l3, l4] (.int y :: .int x :: st) σ = if x = y then den mX7_meansUnder 28 [l0, l1, l2, l3, l4] st σ else den mX7_meansUnder 71 [l0, l1, l2, l3, l4] st σ) ∧
  (∀ (l0 l1 l3 l4 : Option Value) (x : Int64) (st : List Value) (σ : dS), den mX7_meansUnder 28 [l0, l1, some (.long x), l3, l4] st σ = den mX7_meansUnder 29 [l0, l1, some (.long x), l3, l4] (.long x :: st) σ) ∧
  (∀ (l1 l2 l3 l4 : Option Value) (x : Nat) (st : List Value) (σ : dS), den mX7_meansUnder 29 [some (.ref x), l1, l2, l3, l4] st σ = den mX7_meansUnder 30 [some (.ref x), l1, l2, l3, l4] (.ref x :: st) σ) ∧
  (∀ (l0 l1 l2 l3 : Option Value) (x : Int32) (st : List Value) (σ : dS), den mX7_meansUnder 30 [l0, l1, l2, l3, some (.int x)] st σ = den mX7_meansUnder 32 [l0, l1, l2, l3, some (.int x)] (.int x :: st) σ) ∧
  (∀ (l0 l1 l2 l3 l4 : Option Value) (st : List Value) (σ : dS), den mX7_meansUnder 32 [l0, l1, l2, l3, l4] st σ = den mX7_meansUnder 33 [l0, l1, l2, l3, l4] (.int (nI 0) :: st) σ) ∧
  (∀ (l0 l1 l2 l3 l4 : Option Value) (a0 : Int32) (a1 : Int32) (b0 : Int64) (q : Nat) (σ : dS), den mX7_meansUnder 33 [l0, l1, l2, l3, l4] [.int a1, .int a0, .ref q, .long b0] σ = if disO σ q 6 = true then ((dcall mX7_of [.ref q, .int a0, .int a1] σ).bind fun r => den mX7_meansUnder 36 [l0, l1, l2, l3, l4] (r.1.toList ++ [.long b0]) r.2) else none) ∧
  (∀ (l0 l1 l2 l3 l4 : Option Value) (st : List Value) (σ : dS), den mX7_meansUnder 36 [l0, l1, l2, l3, l4] st σ = den mX7_meansUnder 37 [l0, l1, l2, l3, l4] (.int (nI 5) :: st) σ) ∧
  (∀ (l0 l1 l2 l3 l4 : Option Value) (x y : Int32) (st : List Value) (σ : dS), den mX7_meansUnder 37 [l0, l1, l2, l3, l4] (.int y :: .int x :: st) σ = if x = y then den mX7_meansUnder 40 [l0, l1, l2, l3, l4] st σ else den mX7_meansUnder 54 [l0, l1, l2, l3, l4] st σ) ∧
  (∀ (l1 l2 l3 l4 : Option Value) (x : Nat) (st : List Value) (σ : dS), den mX7_meansUnder 40 [some (.ref x), l1, l2, l3, l4] st σ = den mX7_meansUnder 41 [some (.ref x), l1, l2, l3, l4] (.ref x :: st) σ) ∧
  (∀ (l0 l1 l2 l3 l4 : Option Value) (q : Nat) (st : List Value) (σ : dS), den mX7_meansUnder 41 [l0, l1, l2, l3, l4] (.ref q :: st) σ = (dget σ q 6 16).bind fun v => den mX7_meansUnder 44 [l0, l1, l2, l3, l4] (v :: st) σ) ∧
  (∀ (l1 l2 l3 l4 : Option Value) (x : Nat) (st : List Value) (σ : dS), den mX7_meansUnder 44 [some (.ref x), l1, l2, l3, l4] st σ = den mX7_meansUnder 45 [some (.ref x), l1, l2, l3, l4] (.ref x :: st) σ) ∧
  (∀ (l0 l1 l2 l3 : Option Value) (x : Int32) (st : List Value) (σ : dS), den mX7_meansUnder 45 [l0, l1, l2, l3, some (.int x)] st σ = den mX7_meansUnder 47 [l0, l1, l2, l3, some (.int x)] (.int x :: st) σ) ∧
  (∀ (l0 l1 l2 l3 l4 : Option Value) (a0 : Int32) (b0 : Nat) (b1 : Int64) (q : Nat) (σ : dS), den mX7_meansUnder 47 [l0, l1, l2, l3, l4] [.int a0, .ref q, .ref b0, .long b1] σ = if disO σ q 6 = true then ((dcall mX7_ifOf [.ref q, .int a0] σ).bind fun r => den mX7_meansUnder 50 [l0, l1, l2, l3, l4] (r.1.toList ++ [.ref b0, .long b1]) r.2) else none) ∧
  (∀ (l0 l1 l2 l3 l4 : Option Value) (q : Nat) (i : Int32) (st : List Value) (σ : dS), den mX7_meansUnder 50 [l0, l1, l2, l3, l4] (.int i :: .ref q :: st) σ = (dlld σ q i).bind fun v => den mX7_meansUnder 51 [l0, l1, l2, l3, l4] (.long v :: st) σ) ∧
  (∀ (l0 l1 l2 l3 l4 : Option Value) (st : List Value) (σ : dS), den mX7_meansUnder 51 [l0, l1, l2, l3, l4] st σ = den mX7_meansUnder 69 [l0, l1, l2, l3, l4] st σ) ∧
  (∀ (l0 l1 l2 l3 l4 : Option Value) (st : List Value) (σ : dS), den mX7_meansUnder 54 [l0, l1, l2, l3, l4] st σ = den mX7_meansUnder 57 [l0, l1, l2, l3, l4] (.long (lN 1000000) :: st) σ) ∧
  (∀ (l1 l2 l3 l4 : Option Value) (x : Nat) (st : List Value) (σ : dS), den mX7_meansUnder 57 [some (.ref x), l1, l2, l3, l4] st σ = den mX7_meansUnder 58 [some (.ref x), l1, l2, l3, l4] (.ref x :: st) σ) ∧
  (∀ (l0 l1 l2 l3 : Option Value) (x : Int32) (st : List Value) (σ : dS), den mX7_meansUnder 58 [l0, l1, l2, l3, some (.int x)] st σ = den mX7_meansUnder 60 [l0, l1, l2, l3, some (.int x)] (.int x :: st) σ) ∧
  (∀ (l0 l1 l2 l3 l4 : Option Value) (st : List Value) (σ : dS), den mX7_meansUnder 60 [l0, l1, l2, l3, l4] st σ = den mX7_meansUnder 61 [l0, l1, l2, l3, l4] (.int (nI 0) :: st) σ) ∧
  (∀ (l0 l1 l2 l3 l4 : Option Value) (a0 : Int32) (a1 : Int32) (b0 : Int64) (b1 : Int64) (q : Nat) (σ : dS), den mX7_meansUnder 61 [l0, l1, l2, l3, l4] [.int a1, .int a0, .ref q, .long b0, .long b1] σ = if disO σ q 6 = true then ((dcall mX7_of [.ref q, .int a0, .int a1] σ).bind fun r => den mX7_meansUnder 64 [l0, l1, l2, l3, l4] (r.1.toList ++ [.long b0, .long b1]) r.2) else none) ∧
  (∀ (l0 l1 l2 l3 l4 : Option Value) (a0 : Int32) (b0 : Int64) (b1 : Int64) (σ : dS), den mX7_meansUnder 64 [l0, l1, l2, l3, l4] [.int a0, .long b0, .long b1] σ = (dcall mX7_costOf [.int a0] σ).bind fun r => den mX7_meansUnder 67 [l0, l1, l2, l3, l4] (r.1.toList ++ [.long b0, .long b1]) r.2) ∧
  (∀ (l0 l1 l2 l3 l4 : Option Value) (x : Int32) (st : List Value) (σ : dS), den mX7_meansUnder 67 [l0, l1, l2, l3, l4] (.int x :: st) σ = den mX7_meansUnder 68 [l0, l1, l2, l3, l4] (.long x.toInt64 :: st) σ) ∧
  (∀ (l0 l1 l2 l3 l4 : Option Value) (x y : Int64) (st : List Value) (σ : dS), den mX7_meansUnder 68 [l0, l1, l2, l3, l4] (.long y :: .long x :: st) σ = den mX7_meansUnder 69 [l0, l1, l2, l3, l4] (.long (x * y) :: st) σ) ∧
  (∀ (l0 l1 l2 l3 l4 : Option Value) (x y : Int64) (st : List Value) (σ : dS), den mX7_meansUnder 69 [l0, l1, l2, l3, l4] (.long y :: .long x :: st) σ = den mX7_meansUnder 70 [l0, l1, l2, l3, l4] (.long (x + y) :: st) σ) ∧
  (∀ (l0 l2 l3 l4 : Option Value) (x : Int64) (y : Int32) (st : List Value) (σ : dS), den mX7_meansUnder 70 [l0, some (.int y), l2, l3, l4] (.long x :: st) σ = den mX7_meansUnder 71 [l0, some (.int y), some (.long x), none, l4] st σ) ∧
  (∀ (l0 l1 l2 : Option Value) (x : Int32) (st : List Value) (σ : dS), den mX7_meansUnder 71 [l0, l1, l2, none, some (.int x)] st σ = den mX7_meansUnder 74 [l0, l1, l2, none, some (.int (x + nI 1))] st σ) :=
  ⟨fun l0 l1 l2 l3 l4 st σ => dn_lconst eX7_meansUnder dX7_meansUnder_0 kc_lconst_0,
  fun l0 l2 l3 l4 x y st σ => dn_lstore_n eX7_meansUnder dX7_meansUnder_1 rfl,
  fun l0 l1 l2 l3 l4 st σ => dn_iconst eX7_meansUnder dX7_meansUnder_2 kc_iconst_0,
  fun l0 l1 l2 l4 x st σ => dn_istore eX7_meansUnder dX7_meansUnder_3 rfl,
  fun l1 l2 l3 l4 x st σ => dn_aload_n eX7_meansUnder dX7_meansUnder_7 rfl,
  fun l0 l1 l2 l3 l4 q st σ => dn_getfield (f := (6, 0, 771)) eX7_meansUnder dX7_meansUnder_8 (by decide +kernel),
  fun l0 l1 l2 l3 l4 st σ => dn_bipush eX7_meansUnder dX7_meansUnder_11 kc_bipush_120,
  fun l0 l1 l2 l3 l4 q i st σ => dn_iaload eX7_meansUnder dX7_meansUnder_13,
  fun l0 l1 l2 l3 l4 x y st σ => dn_icmp_ge eX7_meansUnder dX7_meansUnder_14 (by decide),
  fun l1 l2 l3 l4 x st σ => dn_aload_n eX7_meansUnder dX7_meansUnder_17 rfl,
  fun l0 l1 l2 l3 x st σ => dn_iload eX7_meansUnder dX7_meansUnder_18 rfl,
  fun l0 l1 l2 l3 l4 st σ => dn_iconst eX7_meansUnder dX7_meansUnder_20 kc_iconst_4,
  fun l0 l1 l2 l3 l4 a0 a1 q σ => rX7_meansUnder_21 l0 l1 l2 l3 l4 a0 a1 q σ,
  fun l0 l2 l3 l4 x st σ => dn_iload_n eX7_meansUnder dX7_meansUnder_24 rfl,
  fun l0 l1 l2 l3 l4 x y st σ => dn_icmp_ne eX7_meansUnder dX7_meansUnder_25 (by decide),
  fun l0 l1 l3 l4 x st σ => dn_lload_n eX7_meansUnder dX7_meansUnder_28 rfl,
  fun l1 l2 l3 l4 x st σ => dn_aload_n eX7_meansUnder dX7_meansUnder_29 rfl,
  fun l0 l1 l2 l3 x st σ => dn_iload eX7_meansUnder dX7_meansUnder_30 rfl,
  fun l0 l1 l2 l3 l4 st σ => dn_iconst eX7_meansUnder dX7_meansUnder_32 kc_iconst_0,
  fun l0 l1 l2 l3 l4 a0 a1 b0 q σ => rX7_meansUnder_33 l0 l1 l2 l3 l4 a0 a1 b0 q σ,
  fun l0 l1 l2 l3 l4 st σ => dn_iconst eX7_meansUnder dX7_meansUnder_36 kc_iconst_5,
  fun l0 l1 l2 l3 l4 x y st σ => dn_icmp_ne eX7_meansUnder dX7_meansUnder_37 (by decide),
  fun l1 l2 l3 l4 x st σ => dn_aload_n eX7_meansUnder dX7_meansUnder_40 rfl,
  fun l0 l1 l2 l3 l4 q st σ => dn_getfield (f := (6, 16, 787)) eX7_meansUnder dX7_meansUnder_41 (by decide +kernel),
  fun l1 l2 l3 l4 x st σ => dn_aload_n eX7_meansUnder dX7_meansUnder_44 rfl,
  fun l0 l1 l2 l3 x st σ => dn_iload eX7_meansUnder dX7_meansUnder_45 rfl,
  fun l0 l1 l2 l3 l4 a0 b0 b1 q σ => rX7_meansUnder_47 l0 l1 l2 l3 l4 a0 b0 b1 q σ,
  fun l0 l1 l2 l3 l4 q i st σ => dn_laload eX7_meansUnder dX7_meansUnder_50,
  fun l0 l1 l2 l3 l4 st σ => dn_goto eX7_meansUnder dX7_meansUnder_51 (by decide),
  fun l0 l1 l2 l3 l4 st σ => dn_ldc2_w (w := 1000000) (p := 987) eX7_meansUnder dX7_meansUnder_54 (by decide +kernel) (by decide +kernel),
  fun l1 l2 l3 l4 x st σ => dn_aload_n eX7_meansUnder dX7_meansUnder_57 rfl,
  fun l0 l1 l2 l3 x st σ => dn_iload eX7_meansUnder dX7_meansUnder_58 rfl,
  fun l0 l1 l2 l3 l4 st σ => dn_iconst eX7_meansUnder dX7_meansUnder_60 kc_iconst_0,
  fun l0 l1 l2 l3 l4 a0 a1 b0 b1 q σ => rX7_meansUnder_61 l0 l1 l2 l3 l4 a0 a1 b0 b1 q σ,
  fun l0 l1 l2 l3 l4 a0 b0 b1 σ => dn_callS (e := (1, 131, 988)) (as := [.int a0]) (rest := [.long b0, .long b1]) eX7_meansUnder dX7_meansUnder_64 (by decide +kernel) (Or.inl rfl) (by decide +kernel) rfl (dcat_le rfl) (dlen_le rfl) rfl,
  fun l0 l1 l2 l3 l4 x st σ => dn_i2l eX7_meansUnder dX7_meansUnder_67,
  fun l0 l1 l2 l3 l4 x y st σ => dn_lmul eX7_meansUnder dX7_meansUnder_68,
  fun l0 l1 l2 l3 l4 x y st σ => dn_ladd eX7_meansUnder dX7_meansUnder_69,
  fun l0 l2 l3 l4 x y st σ => dn_lstore_n eX7_meansUnder dX7_meansUnder_70 rfl,
  fun l0 l1 l2 x st σ => dn_iinc (v := nI 1) eX7_meansUnder dX7_meansUnder_71 rfl kc_iconst_1 rfl⟩
set_option maxRecDepth 20000 in
theorem SX7_meansUnder_1 : (∀ (l0 l1 l2 l3 l4 : Option Value) (st : List Value) (σ : dS), den mX7_meansUnder 74 [l0, l1, l2, l3, l4] st σ = den mX7_meansUnder 5 [l0, l1, l2, l3, l4] st σ) ∧
  (∀ (l0 l1 l3 l4 : Option Value) (x : Int64) (st : List Value) (σ : dS), den mX7_meansUnder 77 [l0, l1, some (.long x), l3, l4] st σ = den mX7_meansUnder 78 [l0, l1, some (.long x), l3, l4] (.long x :: st) σ) ∧
  (∀ (l0 l1 l2 l3 l4 : Option Value) (v : Int64) (σ : dS), den mX7_meansUnder 78 [l0, l1, l2, l3, l4] [.long v] σ = some (some (.long v), σ)) :=
  ⟨fun l0 l1 l2 l3 l4 st σ => dn_goto eX7_meansUnder dX7_meansUnder_74 (by decide),
  fun l0 l1 l3 l4 x st σ => dn_lload_n eX7_meansUnder dX7_meansUnder_77 rfl,
  fun l0 l1 l2 l3 l4 v σ => dn_lreturn eX7_meansUnder dX7_meansUnder_78 rfl⟩
theorem CX7_findMeans (a0 : Nat) (σ : dS) : dcall mX7_findMeans [.ref a0] σ = den mX7_findMeans 0 [some (.ref a0), none, none, none, none, none, none, none, none, none] [] σ := dcall_den (by decide) rfl
theorem rX7_findMeans_1 (l0 l1 l2 l3 l4 l5 l6 l7 l8 l9 : Option Value) (q : Nat) (σ : dS) : den mX7_findMeans 1 [l0, l1, l2, l3, l4, l5, l6, l7, l8, l9] [.ref q] σ = if disO σ q 6 = true then ((dcall mX7_ifs [.ref q] σ).bind fun r => den mX7_findMeans 4 [l0, l1, l2, l3, l4, l5, l6, l7, l8, l9] (r.1.toList ++ []) r.2) else none := by
  by_cases h : disO σ q 6 = true
  · rw [if_pos h]; exact dn_callV (e := (0, 122, 943)) (as := []) (rest := []) eX7_findMeans dX7_findMeans_1 (by decide +kernel) rfl (by decide +kernel) rfl (dcat_le rfl) (dlen_le rfl) rfl h
  · rw [if_neg h]; exact den_noV (e := (0, 122, 943)) (as := []) (rest := []) eX7_findMeans dX7_findMeans_1 (by decide +kernel) rfl rfl rfl h
theorem hX7_findMeans_9 (l0 l1 l3 l4 l5 l6 l7 l8 l9 : Option Value) (x : Int32) (st : List Value) (σ : dS) : den mX7_findMeans 9 [l0, l1, some (.int x), l3, l4, l5, l6, l7, l8, l9] st σ = den mX7_findMeans 10 [l0, l1, some (.int x), l3, l4, l5, l6, l7, l8, l9] (.int x :: st) σ := dn_iload_n eX7_findMeans dX7_findMeans_9 rfl
theorem rX7_findMeans_15 (l0 l1 l2 l3 l4 l5 l6 l7 l8 l9 : Option Value) (a0 : Int32) (q : Nat) (σ : dS) : den mX7_findMeans 15 [l0, l1, l2, l3, l4, l5, l6, l7, l8, l9] [.int a0, .ref q] σ = if disO σ q 6 = true then ((dcall mX7_codeOf [.ref q, .int a0] σ).bind fun r => den mX7_findMeans 18 [l0, l1, l2, l3, l4, l5, l6, l7, l8, l9] (r.1.toList ++ []) r.2) else none := by
  by_cases h : disO σ q 6 = true
  · rw [if_pos h]; exact dn_callV (e := (0, 123, 966)) (as := [.int a0]) (rest := []) eX7_findMeans dX7_findMeans_15 (by decide +kernel) rfl (by decide +kernel) rfl (dcat_le rfl) (dlen_le rfl) rfl h
  · rw [if_neg h]; exact den_noV (e := (0, 123, 966)) (as := [.int a0]) (rest := []) eX7_findMeans dX7_findMeans_15 (by decide +kernel) rfl rfl rfl h
theorem rX7_findMeans_22 (l0 l1 l2 l3 l4 l5 l6 l7 l8 l9 : Option Value) (a0 : Int32) (a1 : Int32) (q : Nat) (σ : dS) : den mX7_findMeans 22 [l0, l1, l2, l3, l4, l5, l6, l7, l8, l9] [.int a1, .int a0, .ref q] σ = if disO σ q 6 = true then ((dcall mX7_of [.ref q, .int a0, .int a1] σ).bind fun r => den mX7_findMeans 25 [l0, l1, l2, l3, l4, l5, l6, l7, l8, l9] (r.1.toList ++ []) r.2) else none := by
  by_cases h : disO σ q 6 = true
  · rw [if_pos h]; exact dn_callV (e := (0, 120, 947)) (as := [.int a0, .int a1]) (rest := []) eX7_findMeans dX7_findMeans_22 (by decide +kernel) rfl (by decide +kernel) rfl (dcat_le rfl) (dlen_le rfl) rfl h
  · rw [if_neg h]; exact den_noV (e := (0, 120, 947)) (as := [.int a0, .int a1]) (rest := []) eX7_findMeans dX7_findMeans_22 (by decide +kernel) rfl rfl rfl h
theorem rX7_findMeans_36 (l0 l1 l2 l3 l4 l5 l6 l7 l8 l9 : Option Value) (a0 : Int32) (b0 : Int64) (q : Nat) (σ : dS) : den mX7_findMeans 36 [l0, l1, l2, l3, l4, l5, l6, l7, l8, l9] [.int a0, .ref q, .long b0] σ = if disO σ q 6 = true then ((dcall mX7_meansUnder [.ref q, .int a0] σ).bind fun r => den mX7_findMeans 39 [l0, l1, l2, l3, l4, l5, l6, l7, l8, l9] (r.1.toList ++ [.long b0]) r.2) else none := by
  by_cases h : disO σ q 6 = true
  · rw [if_pos h]; exact dn_callV (e := (0, 135, 979)) (as := [.int a0]) (rest := [.long b0]) eX7_findMeans dX7_findMeans_36 (by decide +kernel) rfl (by decide +kernel) rfl (dcat_le rfl) (dlen_le rfl) rfl h
  · rw [if_neg h]; exact den_noV (e := (0, 135, 979)) (as := [.int a0]) (rest := [.long b0]) eX7_findMeans dX7_findMeans_36 (by decide +kernel) rfl rfl rfl h
theorem rX7_findMeans_49 (l0 l1 l2 l3 l4 l5 l6 l7 l8 l9 : Option Value) (a0 : Int32) (b0 : Int64) (b1 : Int64) (q : Nat) (σ : dS) : den mX7_findMeans 49 [l0, l1, l2, l3, l4, l5, l6, l7, l8, l9] [.int a0, .ref q, .long b0, .long b1] σ = if disO σ q 6 = true then ((dcall mX7_meansUnder [.ref q, .int a0] σ).bind fun r => den mX7_findMeans 52 [l0, l1, l2, l3, l4, l5, l6, l7, l8, l9] (r.1.toList ++ [.long b0, .long b1]) r.2) else none := by
  by_cases h : disO σ q 6 = true
  · rw [if_pos h]; exact dn_callV (e := (0, 135, 979)) (as := [.int a0]) (rest := [.long b0, .long b1]) eX7_findMeans dX7_findMeans_49 (by decide +kernel) rfl (by decide +kernel) rfl (dcat_le rfl) (dlen_le rfl) rfl h
  · rw [if_neg h]; exact den_noV (e := (0, 135, 979)) (as := [.int a0]) (rest := [.long b0, .long b1]) eX7_findMeans dX7_findMeans_49 (by decide +kernel) rfl rfl rfl h
theorem rX7_findMeans_72 (l0 l1 l2 l3 l4 l5 l6 l7 l8 l9 : Option Value) (a0 : Int32) (b0 : Int64) (q : Nat) (σ : dS) : den mX7_findMeans 72 [l0, l1, l2, l3, l4, l5, l6, l7, l8, l9] [.int a0, .ref q, .long b0] σ = if disO σ q 6 = true then ((dcall mX7_flatOf [.ref q, .int a0] σ).bind fun r => den mX7_findMeans 75 [l0, l1, l2, l3, l4, l5, l6, l7, l8, l9] (r.1.toList ++ [.long b0]) r.2) else none := by
  by_cases h : disO σ q 6 = true
  · rw [if_pos h]; exact dn_callV (e := (0, 132, 992)) (as := [.int a0]) (rest := [.long b0]) eX7_findMeans dX7_findMeans_72 (by decide +kernel) rfl (by decide +kernel) rfl (dcat_le rfl) (dlen_le rfl) rfl h
  · rw [if_neg h]; exact den_noV (e := (0, 132, 992)) (as := [.int a0]) (rest := [.long b0]) eX7_findMeans dX7_findMeans_72 (by decide +kernel) rfl rfl rfl h
theorem hX7_findMeans_151 (l0 l1 l3 l4 l5 l6 l7 l8 l9 : Option Value) (x : Int32) (st : List Value) (σ : dS) : den mX7_findMeans 151 [l0, l1, some (.int x), l3, l4, l5, l6, l7, l8, l9] st σ = den mX7_findMeans 152 [l0, l1, some (.int x), l3, l4, l5, l6, l7, l8, l9] (.int x :: st) σ := dn_iload_n eX7_findMeans dX7_findMeans_151 rfl
theorem rX7_findMeans_162 (l0 l1 l2 l3 l4 l5 l6 l7 l8 l9 : Option Value) (a0 : Int32) (q : Nat) (σ : dS) : den mX7_findMeans 162 [l0, l1, l2, l3, l4, l5, l6, l7, l8, l9] [.int a0, .ref q] σ = if disO σ q 6 = true then ((dcall mX7_parentOf [.ref q, .int a0] σ).bind fun r => den mX7_findMeans 165 [l0, l1, l2, l3, l4, l5, l6, l7, l8, l9] (r.1.toList ++ []) r.2) else none := by
  by_cases h : disO σ q 6 = true
  · rw [if_pos h]; exact dn_callV (e := (0, 128, 962)) (as := [.int a0]) (rest := []) eX7_findMeans dX7_findMeans_162 (by decide +kernel) rfl (by decide +kernel) rfl (dcat_le rfl) (dlen_le rfl) rfl h
  · rw [if_neg h]; exact den_noV (e := (0, 128, 962)) (as := [.int a0]) (rest := []) eX7_findMeans dX7_findMeans_162 (by decide +kernel) rfl rfl rfl h
set_option maxRecDepth 20000 in
theorem SX7_findMeans_0 : (∀ (l1 l2 l3 l4 l5 l6 l7 l8 l9 : Option Value) (x : Nat) (st : List Value) (σ : dS), den mX7_findMeans 0 [some (.ref x), l1, l2, l3, l4, l5, l6, l7, l8, l9] st σ = den mX7_findMeans 1 [some (.ref x), l1, l2, l3, l4, l5, l6, l7, l8, l9] (.ref x :: st) σ) ∧
  (∀ (l0 l1 l2 l3 l4 l5 l6 l7 l8 l9 : Option Value) (q : Nat) (σ : dS), den mX7_findMeans 1 [l0, l1, l2, l3, l4, l5, l6, l7, l8, l9] [.ref q] σ = if disO σ q 6 = true then ((dcall mX7_ifs [.ref q] σ).bind fun r => den mX7_findMeans 4 [l0, l1, l2, l3, l4, l5, l6, l7, l8, l9] (r.1.toList ++ []) r.2) else none) ∧
  (∀ (l1 l2 l3 l4 l5 l6 l7 l8 l9 : Option Value) (x : Int32) (y : Nat) (st : List Value) (σ : dS), den mX7_findMeans 4 [some (.ref y), l1, l2, l3, l4, l5, l6, l7, l8, l9] (.int x :: st) σ = den mX7_findMeans 5 [some (.ref y), some (.int x), l2, l3, l4, l5, l6, l7, l8, l9] st σ) ∧
  (∀ (l0 l2 l3 l4 l5 l6 l7 l8 l9 : Option Value) (x : Int32) (st : List Value) (σ : dS), den mX7_findMeans 5 [l0, some (.int x), l2, l3, l4, l5, l6, l7, l8, l9] st σ = den mX7_findMeans 6 [l0, some (.int x), l2, l3, l4, l5, l6, l7, l8, l9] (.int x :: st) σ) ∧
  (∀ (l0 l1 l2 l3 l4 l5 l6 l7 l8 l9 : Option Value) (st : List Value) (σ : dS), den mX7_findMeans 6 [l0, l1, l2, l3, l4, l5, l6, l7, l8, l9] st σ = den mX7_findMeans 7 [l0, l1, l2, l3, l4, l5, l6, l7, l8, l9] (.int (nI 1) :: st) σ) ∧
  (∀ (l0 l1 l2 l3 l4 l5 l6 l7 l8 l9 : Option Value) (x y : Int32) (st : List Value) (σ : dS), den mX7_findMeans 7 [l0, l1, l2, l3, l4, l5, l6, l7, l8, l9] (.int y :: .int x :: st) σ = den mX7_findMeans 8 [l0, l1, l2, l3, l4, l5, l6, l7, l8, l9] (.int (x - y) :: st) σ) ∧
  (∀ (l0 l2 l3 l4 l5 l6 l7 l8 l9 : Option Value) (x : Int32) (y : Int32) (st : List Value) (σ : dS), den mX7_findMeans 8 [l0, some (.int y), l2, l3, l4, l5, l6, l7, l8, l9] (.int x :: st) σ = den mX7_findMeans 9 [l0, some (.int y), some (.int x), l3, l4, l5, l6, l7, l8, l9] st σ) ∧
  (∀ (l0 l1 l2 l3 l4 l5 l6 l7 l8 l9 : Option Value) (x : Int32) (st : List Value) (σ : dS), den mX7_findMeans 10 [l0, l1, l2, l3, l4, l5, l6, l7, l8, l9] (.int x :: st) σ = if x < 0 then den mX7_findMeans 149 [l0, l1, l2, l3, l4, l5, l6, l7, l8, l9] st σ else den mX7_findMeans 13 [l0, l1, l2, l3, l4, l5, l6, l7, l8, l9] st σ) ∧
  (∀ (l1 l2 l3 l4 l5 l6 l7 l8 l9 : Option Value) (x : Nat) (st : List Value) (σ : dS), den mX7_findMeans 13 [some (.ref x), l1, l2, l3, l4, l5, l6, l7, l8, l9] st σ = den mX7_findMeans 14 [some (.ref x), l1, l2, l3, l4, l5, l6, l7, l8, l9] (.ref x :: st) σ) ∧
  (∀ (l0 l1 l3 l4 l5 l6 l7 l8 l9 : Option Value) (x : Int32) (st : List Value) (σ : dS), den mX7_findMeans 14 [l0, l1, some (.int x), l3, l4, l5, l6, l7, l8, l9] st σ = den mX7_findMeans 15 [l0, l1, some (.int x), l3, l4, l5, l6, l7, l8, l9] (.int x :: st) σ) ∧
  (∀ (l0 l1 l2 l3 l4 l5 l6 l7 l8 l9 : Option Value) (a0 : Int32) (q : Nat) (σ : dS), den mX7_findMeans 15 [l0, l1, l2, l3, l4, l5, l6, l7, l8, l9] [.int a0, .ref q] σ = if disO σ q 6 = true then ((dcall mX7_codeOf [.ref q, .int a0] σ).bind fun r => den mX7_findMeans 18 [l0, l1, l2, l3, l4, l5, l6, l7, l8, l9] (r.1.toList ++ []) r.2) else none) ∧
  (∀ (l0 l1 l3 l4 l5 l6 l7 l8 l9 : Option Value) (x : Int32) (y : Int32) (st : List Value) (σ : dS), den mX7_findMeans 18 [l0, l1, some (.int y), l3, l4, l5, l6, l7, l8, l9] (.int x :: st) σ = den mX7_findMeans 19 [l0, l1, some (.int y), some (.int x), l4, l5, l6, l7, l8, l9] st σ) ∧
  (∀ (l1 l2 l3 l4 l5 l6 l7 l8 l9 : Option Value) (x : Nat) (st : List Value) (σ : dS), den mX7_findMeans 19 [some (.ref x), l1, l2, l3, l4, l5, l6, l7, l8, l9] st σ = den mX7_findMeans 20 [some (.ref x), l1, l2, l3, l4, l5, l6, l7, l8, l9] (.ref x :: st) σ) ∧
  (∀ (l0 l1 l2 l4 l5 l6 l7 l8 l9 : Option Value) (x : Int32) (st : List Value) (σ : dS), den mX7_findMeans 20 [l0, l1, l2, some (.int x), l4, l5, l6, l7, l8, l9] st σ = den mX7_findMeans 21 [l0, l1, l2, some (.int x), l4, l5, l6, l7, l8, l9] (.int x :: st) σ) ∧
  (∀ (l0 l1 l2 l3 l4 l5 l6 l7 l8 l9 : Option Value) (st : List Value) (σ : dS), den mX7_findMeans 21 [l0, l1, l2, l3, l4, l5, l6, l7, l8, l9] st σ = den mX7_findMeans 22 [l0, l1, l2, l3, l4, l5, l6, l7, l8, l9] (.int (nI 2) :: st) σ) ∧
  (∀ (l0 l1 l2 l3 l4 l5 l6 l7 l8 l9 : Option Value) (a0 : Int32) (a1 : Int32) (q : Nat) (σ : dS), den mX7_findMeans 22 [l0, l1, l2, l3, l4, l5, l6, l7, l8, l9] [.int a1, .int a0, .ref q] σ = if disO σ q 6 = true then ((dcall mX7_of [.ref q, .int a0, .int a1] σ).bind fun r => den mX7_findMeans 25 [l0, l1, l2, l3, l4, l5, l6, l7, l8, l9] (r.1.toList ++ []) r.2) else none) ∧
  (∀ (l0 l1 l2 l4 l5 l6 l7 l8 l9 : Option Value) (x : Int32) (y : Int32) (st : List Value) (σ : dS), den mX7_findMeans 25 [l0, l1, l2, some (.int y), l4, l5, l6, l7, l8, l9] (.int x :: st) σ = den mX7_findMeans 27 [l0, l1, l2, some (.int y), some (.int x), l5, l6, l7, l8, l9] st σ) ∧
  (∀ (l0 l1 l2 l3 l4 l5 l6 l7 l8 l9 : Option Value) (st : List Value) (σ : dS), den mX7_findMeans 27 [l0, l1, l2, l3, l4, l5, l6, l7, l8, l9] st σ = den mX7_findMeans 30 [l0, l1, l2, l3, l4, l5, l6, l7, l8, l9] (.long (lN 4000000) :: st) σ) ∧
  (∀ (l1 l2 l3 l4 l5 l6 l7 l8 l9 : Option Value) (x : Nat) (st : List Value) (σ : dS), den mX7_findMeans 30 [some (.ref x), l1, l2, l3, l4, l5, l6, l7, l8, l9] st σ = den mX7_findMeans 31 [some (.ref x), l1, l2, l3, l4, l5, l6, l7, l8, l9] (.ref x :: st) σ) ∧
  (∀ (l0 l1 l2 l3 l4 l5 l6 l7 l8 l9 : Option Value) (st : List Value) (σ : dS), den mX7_findMeans 31 [l0, l1, l2, l3, l4, l5, l6, l7, l8, l9] st σ = den mX7_findMeans 32 [l0, l1, l2, l3, l4, l5, l6, l7, l8, l9] (.int (nI 2) :: st) σ) ∧
  (∀ (l0 l1 l3 l4 l5 l6 l7 l8 l9 : Option Value) (x : Int32) (st : List Value) (σ : dS), den mX7_findMeans 32 [l0, l1, some (.int x), l3, l4, l5, l6, l7, l8, l9] st σ = den mX7_findMeans 33 [l0, l1, some (.int x), l3, l4, l5, l6, l7, l8, l9] (.int x :: st) σ) ∧
  (∀ (l0 l1 l2 l3 l4 l5 l6 l7 l8 l9 : Option Value) (x y : Int32) (st : List Value) (σ : dS), den mX7_findMeans 33 [l0, l1, l2, l3, l4, l5, l6, l7, l8, l9] (.int y :: .int x :: st) σ = den mX7_findMeans 34 [l0, l1, l2, l3, l4, l5, l6, l7, l8, l9] (.int (x * y) :: st) σ) ∧
  (∀ (l0 l1 l2 l3 l4 l5 l6 l7 l8 l9 : Option Value) (st : List Value) (σ : dS), den mX7_findMeans 34 [l0, l1, l2, l3, l4, l5, l6, l7, l8, l9] st σ = den mX7_findMeans 35 [l0, l1, l2, l3, l4, l5, l6, l7, l8, l9] (.int (nI 1) :: st) σ) ∧
  (∀ (l0 l1 l2 l3 l4 l5 l6 l7 l8 l9 : Option Value) (x y : Int32) (st : List Value) (σ : dS), den mX7_findMeans 35 [l0, l1, l2, l3, l4, l5, l6, l7, l8, l9] (.int y :: .int x :: st) σ = den mX7_findMeans 36 [l0, l1, l2, l3, l4, l5, l6, l7, l8, l9] (.int (x + y) :: st) σ) ∧
  (∀ (l0 l1 l2 l3 l4 l5 l6 l7 l8 l9 : Option Value) (a0 : Int32) (b0 : Int64) (q : Nat) (σ : dS), den mX7_findMeans 36 [l0, l1, l2, l3, l4, l5, l6, l7, l8, l9] [.int a0, .ref q, .long b0] σ = if disO σ q 6 = true then ((dcall mX7_meansUnder [.ref q, .int a0] σ).bind fun r => den mX7_findMeans 39 [l0, l1, l2, l3, l4, l5, l6, l7, l8, l9] (r.1.toList ++ [.long b0]) r.2) else none) ∧
  (∀ (l0 l1 l2 l3 l5 l6 l7 l8 l9 : Option Value) (x : Int32) (st : List Value) (σ : dS), den mX7_findMeans 39 [l0, l1, l2, l3, some (.int x), l5, l6, l7, l8, l9] st σ = den mX7_findMeans 41 [l0, l1, l2, l3, some (.int x), l5, l6, l7, l8, l9] (.int x :: st) σ) ∧
  (∀ (l0 l1 l2 l3 l4 l5 l6 l7 l8 l9 : Option Value) (x : Int32) (st : List Value) (σ : dS), den mX7_findMeans 41 [l0, l1, l2, l3, l4, l5, l6, l7, l8, l9] (.int x :: st) σ = den mX7_findMeans 42 [l0, l1, l2, l3, l4, l5, l6, l7, l8, l9] (.long x.toInt64 :: st) σ) ∧
  (∀ (l0 l1 l2 l3 l4 l5 l6 l7 l8 l9 : Option Value) (x y : Int64) (st : List Value) (σ : dS), den mX7_findMeans 42 [l0, l1, l2, l3, l4, l5, l6, l7, l8, l9] (.long y :: .long x :: st) σ = den mX7_findMeans 43 [l0, l1, l2, l3, l4, l5, l6, l7, l8, l9] (.long (x * y) :: st) σ) ∧
  (∀ (l1 l2 l3 l4 l5 l6 l7 l8 l9 : Option Value) (x : Nat) (st : List Value) (σ : dS), den mX7_findMeans 43 [some (.ref x), l1, l2, l3, l4, l5, l6, l7, l8, l9] st σ = den mX7_findMeans 44 [some (.ref x), l1, l2, l3, l4, l5, l6, l7, l8, l9] (.ref x :: st) σ) ∧
  (∀ (l0 l1 l2 l3 l4 l5 l6 l7 l8 l9 : Option Value) (st : List Value) (σ : dS), den mX7_findMeans 44 [l0, l1, l2, l3, l4, l5, l6, l7, l8, l9] st σ = den mX7_findMeans 45 [l0, l1, l2, l3, l4, l5, l6, l7, l8, l9] (.int (nI 2) :: st) σ) ∧
  (∀ (l0 l1 l3 l4 l5 l6 l7 l8 l9 : Option Value) (x : Int32) (st : List Value) (σ : dS), den mX7_findMeans 45 [l0, l1, some (.int x), l3, l4, l5, l6, l7, l8, l9] st σ = den mX7_findMeans 46 [l0, l1, some (.int x), l3, l4, l5, l6, l7, l8, l9] (.int x :: st) σ) ∧
  (∀ (l0 l1 l2 l3 l4 l5 l6 l7 l8 l9 : Option Value) (x y : Int32) (st : List Value) (σ : dS), den mX7_findMeans 46 [l0, l1, l2, l3, l4, l5, l6, l7, l8, l9] (.int y :: .int x :: st) σ = den mX7_findMeans 47 [l0, l1, l2, l3, l4, l5, l6, l7, l8, l9] (.int (x * y) :: st) σ) ∧
  (∀ (l0 l1 l2 l3 l4 l5 l6 l7 l8 l9 : Option Value) (st : List Value) (σ : dS), den mX7_findMeans 47 [l0, l1, l2, l3, l4, l5, l6, l7, l8, l9] st σ = den mX7_findMeans 48 [l0, l1, l2, l3, l4, l5, l6, l7, l8, l9] (.int (nI 2) :: st) σ) ∧
  (∀ (l0 l1 l2 l3 l4 l5 l6 l7 l8 l9 : Option Value) (x y : Int32) (st : List Value) (σ : dS), den mX7_findMeans 48 [l0, l1, l2, l3, l4, l5, l6, l7, l8, l9] (.int y :: .int x :: st) σ = den mX7_findMeans 49 [l0, l1, l2, l3, l4, l5, l6, l7, l8, l9] (.int (x + y) :: st) σ) ∧
  (∀ (l0 l1 l2 l3 l4 l5 l6 l7 l8 l9 : Option Value) (a0 : Int32) (b0 : Int64) (b1 : Int64) (q : Nat) (σ : dS), den mX7_findMeans 49 [l0, l1, l2, l3, l4, l5, l6, l7, l8, l9] [.int a0, .ref q, .long b0, .long b1] σ = if disO σ q 6 = true then ((dcall mX7_meansUnder [.ref q, .int a0] σ).bind fun r => den mX7_findMeans 52 [l0, l1, l2, l3, l4, l5, l6, l7, l8, l9] (r.1.toList ++ [.long b0, .long b1]) r.2) else none) ∧
  (∀ (l0 l1 l2 l3 l4 l5 l6 l7 l8 l9 : Option Value) (st : List Value) (σ : dS), den mX7_findMeans 52 [l0, l1, l2, l3, l4, l5, l6, l7, l8, l9] st σ = den mX7_findMeans 54 [l0, l1, l2, l3, l4, l5, l6, l7, l8, l9] (.int (nI 10) :: st) σ) ∧
  (∀ (l0 l1 l2 l3 l5 l6 l7 l8 l9 : Option Value) (x : Int32) (st : List Value) (σ : dS), den mX7_findMeans 54 [l0, l1, l2, l3, some (.int x), l5, l6, l7, l8, l9] st σ = den mX7_findMeans 56 [l0, l1, l2, l3, some (.int x), l5, l6, l7, l8, l9] (.int x :: st) σ) ∧
  (∀ (l0 l1 l2 l3 l4 l5 l6 l7 l8 l9 : Option Value) (x y : Int32) (st : List Value) (σ : dS), den mX7_findMeans 56 [l0, l1, l2, l3, l4, l5, l6, l7, l8, l9] (.int y :: .int x :: st) σ = den mX7_findMeans 57 [l0, l1, l2, l3, l4, l5, l6, l7, l8, l9] (.int (x - y) :: st) σ) ∧
  (∀ (l0 l1 l2 l3 l4 l5 l6 l7 l8 l9 : Option Value) (x : Int32) (st : List Value) (σ : dS), den mX7_findMeans 57 [l0, l1, l2, l3, l4, l5, l6, l7, l8, l9] (.int x :: st) σ = den mX7_findMeans 58 [l0, l1, l2, l3, l4, l5, l6, l7, l8, l9] (.long x.toInt64 :: st) σ) ∧
  (∀ (l0 l1 l2 l3 l4 l5 l6 l7 l8 l9 : Option Value) (x y : Int64) (st : List Value) (σ : dS), den mX7_findMeans 58 [l0, l1, l2, l3, l4, l5, l6, l7, l8, l9] (.long y :: .long x :: st) σ = den mX7_findMeans 59 [l0, l1, l2, l3, l4, l5, l6, l7, l8, l9] (.long (x * y) :: st) σ) :=
  ⟨fun l1 l2 l3 l4 l5 l6 l7 l8 l9 x st σ => dn_aload_n eX7_findMeans dX7_findMeans_0 rfl,
  fun l0 l1 l2 l3 l4 l5 l6 l7 l8 l9 q σ => rX7_findMeans_1 l0 l1 l2 l3 l4 l5 l6 l7 l8 l9 q σ,
  fun l1 l2 l3 l4 l5 l6 l7 l8 l9 x y st σ => dn_istore_n eX7_findMeans dX7_findMeans_4 rfl,
  fun l0 l2 l3 l4 l5 l6 l7 l8 l9 x st σ => dn_iload_n eX7_findMeans dX7_findMeans_5 rfl,
  fun l0 l1 l2 l3 l4 l5 l6 l7 l8 l9 st σ => dn_iconst eX7_findMeans dX7_findMeans_6 kc_iconst_1,
  fun l0 l1 l2 l3 l4 l5 l6 l7 l8 l9 x y st σ => dn_isub eX7_findMeans dX7_findMeans_7,
  fun l0 l2 l3 l4 l5 l6 l7 l8 l9 x y st σ => dn_istore_n eX7_findMeans dX7_findMeans_8 rfl,
  fun l0 l1 l2 l3 l4 l5 l6 l7 l8 l9 x st σ => dn_if_lt eX7_findMeans dX7_findMeans_10 (by decide),
  fun l1 l2 l3 l4 l5 l6 l7 l8 l9 x st σ => dn_aload_n eX7_findMeans dX7_findMeans_13 rfl,
  fun l0 l1 l3 l4 l5 l6 l7 l8 l9 x st σ => dn_iload_n eX7_findMeans dX7_findMeans_14 rfl,
  fun l0 l1 l2 l3 l4 l5 l6 l7 l8 l9 a0 q σ => rX7_findMeans_15 l0 l1 l2 l3 l4 l5 l6 l7 l8 l9 a0 q σ,
  fun l0 l1 l3 l4 l5 l6 l7 l8 l9 x y st σ => dn_istore_n eX7_findMeans dX7_findMeans_18 rfl,
  fun l1 l2 l3 l4 l5 l6 l7 l8 l9 x st σ => dn_aload_n eX7_findMeans dX7_findMeans_19 rfl,
  fun l0 l1 l2 l4 l5 l6 l7 l8 l9 x st σ => dn_iload_n eX7_findMeans dX7_findMeans_20 rfl,
  fun l0 l1 l2 l3 l4 l5 l6 l7 l8 l9 st σ => dn_iconst eX7_findMeans dX7_findMeans_21 kc_iconst_2,
  fun l0 l1 l2 l3 l4 l5 l6 l7 l8 l9 a0 a1 q σ => rX7_findMeans_22 l0 l1 l2 l3 l4 l5 l6 l7 l8 l9 a0 a1 q σ,
  fun l0 l1 l2 l4 l5 l6 l7 l8 l9 x y st σ => dn_istore eX7_findMeans dX7_findMeans_25 rfl,
  fun l0 l1 l2 l3 l4 l5 l6 l7 l8 l9 st σ => dn_ldc2_w (w := 4000000) (p := 978) eX7_findMeans dX7_findMeans_27 (by decide +kernel) (by decide +kernel),
  fun l1 l2 l3 l4 l5 l6 l7 l8 l9 x st σ => dn_aload_n eX7_findMeans dX7_findMeans_30 rfl,
  fun l0 l1 l2 l3 l4 l5 l6 l7 l8 l9 st σ => dn_iconst eX7_findMeans dX7_findMeans_31 kc_iconst_2,
  fun l0 l1 l3 l4 l5 l6 l7 l8 l9 x st σ => dn_iload_n eX7_findMeans dX7_findMeans_32 rfl,
  fun l0 l1 l2 l3 l4 l5 l6 l7 l8 l9 x y st σ => dn_imul eX7_findMeans dX7_findMeans_33,
  fun l0 l1 l2 l3 l4 l5 l6 l7 l8 l9 st σ => dn_iconst eX7_findMeans dX7_findMeans_34 kc_iconst_1,
  fun l0 l1 l2 l3 l4 l5 l6 l7 l8 l9 x y st σ => dn_iadd eX7_findMeans dX7_findMeans_35,
  fun l0 l1 l2 l3 l4 l5 l6 l7 l8 l9 a0 b0 q σ => rX7_findMeans_36 l0 l1 l2 l3 l4 l5 l6 l7 l8 l9 a0 b0 q σ,
  fun l0 l1 l2 l3 l5 l6 l7 l8 l9 x st σ => dn_iload eX7_findMeans dX7_findMeans_39 rfl,
  fun l0 l1 l2 l3 l4 l5 l6 l7 l8 l9 x st σ => dn_i2l eX7_findMeans dX7_findMeans_41,
  fun l0 l1 l2 l3 l4 l5 l6 l7 l8 l9 x y st σ => dn_lmul eX7_findMeans dX7_findMeans_42,
  fun l1 l2 l3 l4 l5 l6 l7 l8 l9 x st σ => dn_aload_n eX7_findMeans dX7_findMeans_43 rfl,
  fun l0 l1 l2 l3 l4 l5 l6 l7 l8 l9 st σ => dn_iconst eX7_findMeans dX7_findMeans_44 kc_iconst_2,
  fun l0 l1 l3 l4 l5 l6 l7 l8 l9 x st σ => dn_iload_n eX7_findMeans dX7_findMeans_45 rfl,
  fun l0 l1 l2 l3 l4 l5 l6 l7 l8 l9 x y st σ => dn_imul eX7_findMeans dX7_findMeans_46,
  fun l0 l1 l2 l3 l4 l5 l6 l7 l8 l9 st σ => dn_iconst eX7_findMeans dX7_findMeans_47 kc_iconst_2,
  fun l0 l1 l2 l3 l4 l5 l6 l7 l8 l9 x y st σ => dn_iadd eX7_findMeans dX7_findMeans_48,
  fun l0 l1 l2 l3 l4 l5 l6 l7 l8 l9 a0 b0 b1 q σ => rX7_findMeans_49 l0 l1 l2 l3 l4 l5 l6 l7 l8 l9 a0 b0 b1 q σ,
  fun l0 l1 l2 l3 l4 l5 l6 l7 l8 l9 st σ => dn_bipush eX7_findMeans dX7_findMeans_52 kc_bipush_10,
  fun l0 l1 l2 l3 l5 l6 l7 l8 l9 x st σ => dn_iload eX7_findMeans dX7_findMeans_54 rfl,
  fun l0 l1 l2 l3 l4 l5 l6 l7 l8 l9 x y st σ => dn_isub eX7_findMeans dX7_findMeans_56,
  fun l0 l1 l2 l3 l4 l5 l6 l7 l8 l9 x st σ => dn_i2l eX7_findMeans dX7_findMeans_57,
  fun l0 l1 l2 l3 l4 l5 l6 l7 l8 l9 x y st σ => dn_lmul eX7_findMeans dX7_findMeans_58⟩
set_option maxRecDepth 20000 in
theorem SX7_findMeans_1 : (∀ (l0 l1 l2 l3 l4 l5 l6 l7 l8 l9 : Option Value) (x y : Int64) (st : List Value) (σ : dS), den mX7_findMeans 59 [l0, l1, l2, l3, l4, l5, l6, l7, l8, l9] (.long y :: .long x :: st) σ = den mX7_findMeans 60 [l0, l1, l2, l3, l4, l5, l6, l7, l8, l9] (.long (x + y) :: st) σ) ∧
  (∀ (l0 l1 l2 l3 l4 l5 l6 l7 l8 l9 : Option Value) (st : List Value) (σ : dS), den mX7_findMeans 60 [l0, l1, l2, l3, l4, l5, l6, l7, l8, l9] st σ = den mX7_findMeans 63 [l0, l1, l2, l3, l4, l5, l6, l7, l8, l9] (.long (lN 10) :: st) σ) ∧
  (∀ (l0 l1 l2 l3 l4 l5 l6 l7 l8 l9 : Option Value) (x y : Int64) (st : List Value) (σ : dS), den mX7_findMeans 63 [l0, l1, l2, l3, l4, l5, l6, l7, l8, l9] (.long y :: .long x :: st) σ = if y = 0 then none else den mX7_findMeans 64 [l0, l1, l2, l3, l4, l5, l6, l7, l8, l9] (.long (x / y) :: st) σ) ∧
  (∀ (l0 l1 l2 l3 l4 l5 l6 l7 l8 l9 : Option Value) (x y : Int64) (st : List Value) (σ : dS), den mX7_findMeans 64 [l0, l1, l2, l3, l4, l5, l6, l7, l8, l9] (.long y :: .long x :: st) σ = den mX7_findMeans 65 [l0, l1, l2, l3, l4, l5, l6, l7, l8, l9] (.long (x + y) :: st) σ) ∧
  (∀ (l0 l1 l2 l3 l5 l6 l7 l8 l9 : Option Value) (x : Int64) (y : Int32) (st : List Value) (σ : dS), den mX7_findMeans 65 [l0, l1, l2, l3, some (.int y), l5, l6, l7, l8, l9] (.long x :: st) σ = den mX7_findMeans 67 [l0, l1, l2, l3, some (.int y), some (.long x), none, l7, l8, l9] st σ) ∧
  (∀ (l0 l1 l2 l3 l4 l5 l6 l7 l8 l9 : Option Value) (st : List Value) (σ : dS), den mX7_findMeans 67 [l0, l1, l2, l3, l4, l5, l6, l7, l8, l9] st σ = den mX7_findMeans 70 [l0, l1, l2, l3, l4, l5, l6, l7, l8, l9] (.long (lN 1000000) :: st) σ) ∧
  (∀ (l1 l2 l3 l4 l5 l6 l7 l8 l9 : Option Value) (x : Nat) (st : List Value) (σ : dS), den mX7_findMeans 70 [some (.ref x), l1, l2, l3, l4, l5, l6, l7, l8, l9] st σ = den mX7_findMeans 71 [some (.ref x), l1, l2, l3, l4, l5, l6, l7, l8, l9] (.ref x :: st) σ) ∧
  (∀ (l0 l1 l2 l4 l5 l6 l7 l8 l9 : Option Value) (x : Int32) (st : List Value) (σ : dS), den mX7_findMeans 71 [l0, l1, l2, some (.int x), l4, l5, l6, l7, l8, l9] st σ = den mX7_findMeans 72 [l0, l1, l2, some (.int x), l4, l5, l6, l7, l8, l9] (.int x :: st) σ) ∧
  (∀ (l0 l1 l2 l3 l4 l5 l6 l7 l8 l9 : Option Value) (a0 : Int32) (b0 : Int64) (q : Nat) (σ : dS), den mX7_findMeans 72 [l0, l1, l2, l3, l4, l5, l6, l7, l8, l9] [.int a0, .ref q, .long b0] σ = if disO σ q 6 = true then ((dcall mX7_flatOf [.ref q, .int a0] σ).bind fun r => den mX7_findMeans 75 [l0, l1, l2, l3, l4, l5, l6, l7, l8, l9] (r.1.toList ++ [.long b0]) r.2) else none) ∧
  (∀ (l0 l1 l2 l3 l4 l5 l6 l7 l8 l9 : Option Value) (x : Int32) (st : List Value) (σ : dS), den mX7_findMeans 75 [l0, l1, l2, l3, l4, l5, l6, l7, l8, l9] (.int x :: st) σ = den mX7_findMeans 76 [l0, l1, l2, l3, l4, l5, l6, l7, l8, l9] (.long x.toInt64 :: st) σ) ∧
  (∀ (l0 l1 l2 l3 l4 l5 l6 l7 l8 l9 : Option Value) (x y : Int64) (st : List Value) (σ : dS), den mX7_findMeans 76 [l0, l1, l2, l3, l4, l5, l6, l7, l8, l9] (.long y :: .long x :: st) σ = den mX7_findMeans 77 [l0, l1, l2, l3, l4, l5, l6, l7, l8, l9] (.long (x * y) :: st) σ) ∧
  (∀ (l0 l1 l2 l3 l4 l5 l7 l8 l9 : Option Value) (x : Int64) (st : List Value) (σ : dS), den mX7_findMeans 77 [l0, l1, l2, l3, l4, l5, none, l7, l8, l9] (.long x :: st) σ = den mX7_findMeans 79 [l0, l1, l2, l3, l4, l5, none, some (.long x), none, l9] st σ) ∧
  (∀ (l1 l2 l3 l4 l5 l6 l7 l8 l9 : Option Value) (x : Nat) (st : List Value) (σ : dS), den mX7_findMeans 79 [some (.ref x), l1, l2, l3, l4, l5, l6, l7, l8, l9] st σ = den mX7_findMeans 80 [some (.ref x), l1, l2, l3, l4, l5, l6, l7, l8, l9] (.ref x :: st) σ) ∧
  (∀ (l0 l1 l2 l3 l4 l5 l6 l7 l8 l9 : Option Value) (q : Nat) (st : List Value) (σ : dS), den mX7_findMeans 80 [l0, l1, l2, l3, l4, l5, l6, l7, l8, l9] (.ref q :: st) σ = (dget σ q 6 0).bind fun v => den mX7_findMeans 83 [l0, l1, l2, l3, l4, l5, l6, l7, l8, l9] (v :: st) σ) ∧
  (∀ (l0 l1 l2 l3 l4 l5 l6 l7 l8 l9 : Option Value) (st : List Value) (σ : dS), den mX7_findMeans 83 [l0, l1, l2, l3, l4, l5, l6, l7, l8, l9] st σ = den mX7_findMeans 85 [l0, l1, l2, l3, l4, l5, l6, l7, l8, l9] (.int (nI 122) :: st) σ) ∧
  (∀ (l0 l1 l3 l4 l5 l6 l7 l8 l9 : Option Value) (x : Int32) (st : List Value) (σ : dS), den mX7_findMeans 85 [l0, l1, some (.int x), l3, l4, l5, l6, l7, l8, l9] st σ = den mX7_findMeans 86 [l0, l1, some (.int x), l3, l4, l5, l6, l7, l8, l9] (.int x :: st) σ) ∧
  (∀ (l0 l1 l2 l3 l4 l5 l6 l7 l8 l9 : Option Value) (x y : Int32) (st : List Value) (σ : dS), den mX7_findMeans 86 [l0, l1, l2, l3, l4, l5, l6, l7, l8, l9] (.int y :: .int x :: st) σ = den mX7_findMeans 87 [l0, l1, l2, l3, l4, l5, l6, l7, l8, l9] (.int (x + y) :: st) σ) ∧
  (∀ (l0 l1 l2 l3 l4 l5 l6 l7 l8 l9 : Option Value) (q : Nat) (i : Int32) (st : List Value) (σ : dS), den mX7_findMeans 87 [l0, l1, l2, l3, l4, l5, l6, l7, l8, l9] (.int i :: .ref q :: st) σ = if q ≤ dN then (dald σ q 0 i).bind (fun v => den mX7_findMeans 88 [l0, l1, l2, l3, l4, l5, l6, l7, l8, l9] (.int v :: st) σ) else none) ∧
  (∀ (l0 l1 l2 l3 l4 l5 l6 l7 l9 : Option Value) (x : Int32) (st : List Value) (σ : dS), den mX7_findMeans 88 [l0, l1, l2, l3, l4, l5, l6, l7, none, l9] (.int x :: st) σ = den mX7_findMeans 90 [l0, l1, l2, l3, l4, l5, l6, l7, none, some (.int x)] st σ) ∧
  (∀ (l1 l2 l3 l4 l5 l6 l7 l8 l9 : Option Value) (x : Nat) (st : List Value) (σ : dS), den mX7_findMeans 90 [some (.ref x), l1, l2, l3, l4, l5, l6, l7, l8, l9] st σ = den mX7_findMeans 91 [some (.ref x), l1, l2, l3, l4, l5, l6, l7, l8, l9] (.ref x :: st) σ) ∧
  (∀ (l0 l1 l2 l3 l4 l5 l6 l7 l8 l9 : Option Value) (q : Nat) (st : List Value) (σ : dS), den mX7_findMeans 91 [l0, l1, l2, l3, l4, l5, l6, l7, l8, l9] (.ref q :: st) σ = (dget σ q 6 15).bind fun v => den mX7_findMeans 94 [l0, l1, l2, l3, l4, l5, l6, l7, l8, l9] (v :: st) σ) ∧
  (∀ (l0 l1 l3 l4 l5 l6 l7 l8 l9 : Option Value) (x : Int32) (st : List Value) (σ : dS), den mX7_findMeans 94 [l0, l1, some (.int x), l3, l4, l5, l6, l7, l8, l9] st σ = den mX7_findMeans 95 [l0, l1, some (.int x), l3, l4, l5, l6, l7, l8, l9] (.int x :: st) σ) ∧
  (∀ (l0 l1 l2 l3 l4 l5 l6 l7 l8 : Option Value) (x : Int32) (st : List Value) (σ : dS), den mX7_findMeans 95 [l0, l1, l2, l3, l4, l5, l6, l7, l8, some (.int x)] st σ = den mX7_findMeans 97 [l0, l1, l2, l3, l4, l5, l6, l7, l8, some (.int x)] (.int x :: st) σ) ∧
  (∀ (l0 l1 l2 l3 l4 l5 l6 l7 l8 l9 : Option Value) (st : List Value) (σ : dS), den mX7_findMeans 97 [l0, l1, l2, l3, l4, l5, l6, l7, l8, l9] st σ = den mX7_findMeans 98 [l0, l1, l2, l3, l4, l5, l6, l7, l8, l9] (.int (nI 1) :: st) σ) ∧
  (∀ (l0 l1 l2 l3 l4 l5 l6 l7 l8 l9 : Option Value) (x y : Int32) (st : List Value) (σ : dS), den mX7_findMeans 98 [l0, l1, l2, l3, l4, l5, l6, l7, l8, l9] (.int y :: .int x :: st) σ = if x = y then den mX7_findMeans 115 [l0, l1, l2, l3, l4, l5, l6, l7, l8, l9] st σ else den mX7_findMeans 101 [l0, l1, l2, l3, l4, l5, l6, l7, l8, l9] st σ) ∧
  (∀ (l0 l1 l2 l3 l4 l5 l6 l7 l8 : Option Value) (x : Int32) (st : List Value) (σ : dS), den mX7_findMeans 101 [l0, l1, l2, l3, l4, l5, l6, l7, l8, some (.int x)] st σ = den mX7_findMeans 103 [l0, l1, l2, l3, l4, l5, l6, l7, l8, some (.int x)] (.int x :: st) σ) ∧
  (∀ (l0 l1 l2 l3 l4 l5 l6 l7 l8 l9 : Option Value) (st : List Value) (σ : dS), den mX7_findMeans 103 [l0, l1, l2, l3, l4, l5, l6, l7, l8, l9] st σ = den mX7_findMeans 104 [l0, l1, l2, l3, l4, l5, l6, l7, l8, l9] (.int (nI 2) :: st) σ) ∧
  (∀ (l0 l1 l2 l3 l4 l5 l6 l7 l8 l9 : Option Value) (x y : Int32) (st : List Value) (σ : dS), den mX7_findMeans 104 [l0, l1, l2, l3, l4, l5, l6, l7, l8, l9] (.int y :: .int x :: st) σ = if x = y then den mX7_findMeans 107 [l0, l1, l2, l3, l4, l5, l6, l7, l8, l9] st σ else den mX7_findMeans 119 [l0, l1, l2, l3, l4, l5, l6, l7, l8, l9] st σ) ∧
  (∀ (l0 l1 l2 l3 l4 l5 l6 l8 l9 : Option Value) (x : Int64) (st : List Value) (σ : dS), den mX7_findMeans 107 [l0, l1, l2, l3, l4, l5, l6, some (.long x), l8, l9] st σ = den mX7_findMeans 109 [l0, l1, l2, l3, l4, l5, l6, some (.long x), l8, l9] (.long x :: st) σ) ∧
  (∀ (l0 l1 l2 l3 l4 l6 l7 l8 l9 : Option Value) (x : Int64) (st : List Value) (σ : dS), den mX7_findMeans 109 [l0, l1, l2, l3, l4, some (.long x), l6, l7, l8, l9] st σ = den mX7_findMeans 111 [l0, l1, l2, l3, l4, some (.long x), l6, l7, l8, l9] (.long x :: st) σ) ∧
  (∀ (l0 l1 l2 l3 l4 l5 l6 l7 l8 l9 : Option Value) (x y : Int64) (st : List Value) (σ : dS), den mX7_findMeans 111 [l0, l1, l2, l3, l4, l5, l6, l7, l8, l9] (.long y :: .long x :: st) σ = den mX7_findMeans 112 [l0, l1, l2, l3, l4, l5, l6, l7, l8, l9] (.int (lg_cmp x y) :: st) σ) ∧
  (∀ (l0 l1 l2 l3 l4 l5 l6 l7 l8 l9 : Option Value) (x : Int32) (st : List Value) (σ : dS), den mX7_findMeans 112 [l0, l1, l2, l3, l4, l5, l6, l7, l8, l9] (.int x :: st) σ = if 0 < x then den mX7_findMeans 119 [l0, l1, l2, l3, l4, l5, l6, l7, l8, l9] st σ else den mX7_findMeans 115 [l0, l1, l2, l3, l4, l5, l6, l7, l8, l9] st σ) ∧
  (∀ (l0 l1 l2 l3 l4 l5 l6 l7 l8 l9 : Option Value) (st : List Value) (σ : dS), den mX7_findMeans 115 [l0, l1, l2, l3, l4, l5, l6, l7, l8, l9] st σ = den mX7_findMeans 116 [l0, l1, l2, l3, l4, l5, l6, l7, l8, l9] (.int (nI 1) :: st) σ) ∧
  (∀ (l0 l1 l2 l3 l4 l5 l6 l7 l8 l9 : Option Value) (st : List Value) (σ : dS), den mX7_findMeans 116 [l0, l1, l2, l3, l4, l5, l6, l7, l8, l9] st σ = den mX7_findMeans 120 [l0, l1, l2, l3, l4, l5, l6, l7, l8, l9] st σ) ∧
  (∀ (l0 l1 l2 l3 l4 l5 l6 l7 l8 l9 : Option Value) (st : List Value) (σ : dS), den mX7_findMeans 119 [l0, l1, l2, l3, l4, l5, l6, l7, l8, l9] st σ = den mX7_findMeans 120 [l0, l1, l2, l3, l4, l5, l6, l7, l8, l9] (.int (nI 0) :: st) σ) ∧
  (∀ (l0 l1 l2 l3 l4 l5 l6 l7 l8 l9 : Option Value) (q : Nat) (i x : Int32) (st : List Value) (σ : dS), den mX7_findMeans 120 [l0, l1, l2, l3, l4, l5, l6, l7, l8, l9] (.int x :: .int i :: .ref q :: st) σ = (dbst σ q i x).bind fun τ => den mX7_findMeans 121 [l0, l1, l2, l3, l4, l5, l6, l7, l8, l9] st τ) ∧
  (∀ (l1 l2 l3 l4 l5 l6 l7 l8 l9 : Option Value) (x : Nat) (st : List Value) (σ : dS), den mX7_findMeans 121 [some (.ref x), l1, l2, l3, l4, l5, l6, l7, l8, l9] st σ = den mX7_findMeans 122 [some (.ref x), l1, l2, l3, l4, l5, l6, l7, l8, l9] (.ref x :: st) σ) ∧
  (∀ (l0 l1 l2 l3 l4 l5 l6 l7 l8 l9 : Option Value) (q : Nat) (st : List Value) (σ : dS), den mX7_findMeans 122 [l0, l1, l2, l3, l4, l5, l6, l7, l8, l9] (.ref q :: st) σ = (dget σ q 6 16).bind fun v => den mX7_findMeans 125 [l0, l1, l2, l3, l4, l5, l6, l7, l8, l9] (v :: st) σ) ∧
  (∀ (l0 l1 l3 l4 l5 l6 l7 l8 l9 : Option Value) (x : Int32) (st : List Value) (σ : dS), den mX7_findMeans 125 [l0, l1, some (.int x), l3, l4, l5, l6, l7, l8, l9] st σ = den mX7_findMeans 126 [l0, l1, some (.int x), l3, l4, l5, l6, l7, l8, l9] (.int x :: st) σ) ∧
  (∀ (l1 l2 l3 l4 l5 l6 l7 l8 l9 : Option Value) (x : Nat) (st : List Value) (σ : dS), den mX7_findMeans 126 [some (.ref x), l1, l2, l3, l4, l5, l6, l7, l8, l9] st σ = den mX7_findMeans 127 [some (.ref x), l1, l2, l3, l4, l5, l6, l7, l8, l9] (.ref x :: st) σ) :=
  ⟨fun l0 l1 l2 l3 l4 l5 l6 l7 l8 l9 x y st σ => dn_ladd eX7_findMeans dX7_findMeans_59,
  fun l0 l1 l2 l3 l4 l5 l6 l7 l8 l9 st σ => dn_ldc2_w (w := 10) (p := 991) eX7_findMeans dX7_findMeans_60 (by decide +kernel) (by decide +kernel),
  fun l0 l1 l2 l3 l4 l5 l6 l7 l8 l9 x y st σ => dn_ldiv eX7_findMeans dX7_findMeans_63,
  fun l0 l1 l2 l3 l4 l5 l6 l7 l8 l9 x y st σ => dn_ladd eX7_findMeans dX7_findMeans_64,
  fun l0 l1 l2 l3 l5 l6 l7 l8 l9 x y st σ => dn_lstore eX7_findMeans dX7_findMeans_65 rfl,
  fun l0 l1 l2 l3 l4 l5 l6 l7 l8 l9 st σ => dn_ldc2_w (w := 1000000) (p := 987) eX7_findMeans dX7_findMeans_67 (by decide +kernel) (by decide +kernel),
  fun l1 l2 l3 l4 l5 l6 l7 l8 l9 x st σ => dn_aload_n eX7_findMeans dX7_findMeans_70 rfl,
  fun l0 l1 l2 l4 l5 l6 l7 l8 l9 x st σ => dn_iload_n eX7_findMeans dX7_findMeans_71 rfl,
  fun l0 l1 l2 l3 l4 l5 l6 l7 l8 l9 a0 b0 q σ => rX7_findMeans_72 l0 l1 l2 l3 l4 l5 l6 l7 l8 l9 a0 b0 q σ,
  fun l0 l1 l2 l3 l4 l5 l6 l7 l8 l9 x st σ => dn_i2l eX7_findMeans dX7_findMeans_75,
  fun l0 l1 l2 l3 l4 l5 l6 l7 l8 l9 x y st σ => dn_lmul eX7_findMeans dX7_findMeans_76,
  fun l0 l1 l2 l3 l4 l5 l7 l8 l9 x st σ => dn_lstore eX7_findMeans dX7_findMeans_77 rfl,
  fun l1 l2 l3 l4 l5 l6 l7 l8 l9 x st σ => dn_aload_n eX7_findMeans dX7_findMeans_79 rfl,
  fun l0 l1 l2 l3 l4 l5 l6 l7 l8 l9 q st σ => dn_getfield (f := (6, 0, 771)) eX7_findMeans dX7_findMeans_80 (by decide +kernel),
  fun l0 l1 l2 l3 l4 l5 l6 l7 l8 l9 st σ => dn_bipush eX7_findMeans dX7_findMeans_83 kc_bipush_122,
  fun l0 l1 l3 l4 l5 l6 l7 l8 l9 x st σ => dn_iload_n eX7_findMeans dX7_findMeans_85 rfl,
  fun l0 l1 l2 l3 l4 l5 l6 l7 l8 l9 x y st σ => dn_iadd eX7_findMeans dX7_findMeans_86,
  fun l0 l1 l2 l3 l4 l5 l6 l7 l8 l9 q i st σ => dn_iaload eX7_findMeans dX7_findMeans_87,
  fun l0 l1 l2 l3 l4 l5 l6 l7 l9 x st σ => dn_istore eX7_findMeans dX7_findMeans_88 rfl,
  fun l1 l2 l3 l4 l5 l6 l7 l8 l9 x st σ => dn_aload_n eX7_findMeans dX7_findMeans_90 rfl,
  fun l0 l1 l2 l3 l4 l5 l6 l7 l8 l9 q st σ => dn_getfield (f := (6, 15, 786)) eX7_findMeans dX7_findMeans_91 (by decide +kernel),
  fun l0 l1 l3 l4 l5 l6 l7 l8 l9 x st σ => dn_iload_n eX7_findMeans dX7_findMeans_94 rfl,
  fun l0 l1 l2 l3 l4 l5 l6 l7 l8 x st σ => dn_iload eX7_findMeans dX7_findMeans_95 rfl,
  fun l0 l1 l2 l3 l4 l5 l6 l7 l8 l9 st σ => dn_iconst eX7_findMeans dX7_findMeans_97 kc_iconst_1,
  fun l0 l1 l2 l3 l4 l5 l6 l7 l8 l9 x y st σ => dn_icmp_eq eX7_findMeans dX7_findMeans_98 (by decide),
  fun l0 l1 l2 l3 l4 l5 l6 l7 l8 x st σ => dn_iload eX7_findMeans dX7_findMeans_101 rfl,
  fun l0 l1 l2 l3 l4 l5 l6 l7 l8 l9 st σ => dn_iconst eX7_findMeans dX7_findMeans_103 kc_iconst_2,
  fun l0 l1 l2 l3 l4 l5 l6 l7 l8 l9 x y st σ => dn_icmp_ne eX7_findMeans dX7_findMeans_104 (by decide),
  fun l0 l1 l2 l3 l4 l5 l6 l8 l9 x st σ => dn_lload eX7_findMeans dX7_findMeans_107 rfl,
  fun l0 l1 l2 l3 l4 l6 l7 l8 l9 x st σ => dn_lload eX7_findMeans dX7_findMeans_109 rfl,
  fun l0 l1 l2 l3 l4 l5 l6 l7 l8 l9 x y st σ => dn_lcmp eX7_findMeans dX7_findMeans_111,
  fun l0 l1 l2 l3 l4 l5 l6 l7 l8 l9 x st σ => dn_if_gt eX7_findMeans dX7_findMeans_112 (by decide),
  fun l0 l1 l2 l3 l4 l5 l6 l7 l8 l9 st σ => dn_iconst eX7_findMeans dX7_findMeans_115 kc_iconst_1,
  fun l0 l1 l2 l3 l4 l5 l6 l7 l8 l9 st σ => dn_goto eX7_findMeans dX7_findMeans_116 (by decide),
  fun l0 l1 l2 l3 l4 l5 l6 l7 l8 l9 st σ => dn_iconst eX7_findMeans dX7_findMeans_119 kc_iconst_0,
  fun l0 l1 l2 l3 l4 l5 l6 l7 l8 l9 q i x st σ => dn_bastore eX7_findMeans dX7_findMeans_120,
  fun l1 l2 l3 l4 l5 l6 l7 l8 l9 x st σ => dn_aload_n eX7_findMeans dX7_findMeans_121 rfl,
  fun l0 l1 l2 l3 l4 l5 l6 l7 l8 l9 q st σ => dn_getfield (f := (6, 16, 787)) eX7_findMeans dX7_findMeans_122 (by decide +kernel),
  fun l0 l1 l3 l4 l5 l6 l7 l8 l9 x st σ => dn_iload_n eX7_findMeans dX7_findMeans_125 rfl,
  fun l1 l2 l3 l4 l5 l6 l7 l8 l9 x st σ => dn_aload_n eX7_findMeans dX7_findMeans_126 rfl⟩
set_option maxRecDepth 20000 in
theorem SX7_findMeans_2 : (∀ (l0 l1 l2 l3 l4 l5 l6 l7 l8 l9 : Option Value) (q : Nat) (st : List Value) (σ : dS), den mX7_findMeans 127 [l0, l1, l2, l3, l4, l5, l6, l7, l8, l9] (.ref q :: st) σ = (dget σ q 6 15).bind fun v => den mX7_findMeans 130 [l0, l1, l2, l3, l4, l5, l6, l7, l8, l9] (v :: st) σ) ∧
  (∀ (l0 l1 l3 l4 l5 l6 l7 l8 l9 : Option Value) (x : Int32) (st : List Value) (σ : dS), den mX7_findMeans 130 [l0, l1, some (.int x), l3, l4, l5, l6, l7, l8, l9] st σ = den mX7_findMeans 131 [l0, l1, some (.int x), l3, l4, l5, l6, l7, l8, l9] (.int x :: st) σ) ∧
  (∀ (l0 l1 l2 l3 l4 l5 l6 l7 l8 l9 : Option Value) (q : Nat) (i : Int32) (st : List Value) (σ : dS), den mX7_findMeans 131 [l0, l1, l2, l3, l4, l5, l6, l7, l8, l9] (.int i :: .ref q :: st) σ = (dbld σ q i).bind fun v => den mX7_findMeans 132 [l0, l1, l2, l3, l4, l5, l6, l7, l8, l9] (.int v :: st) σ) ∧
  (∀ (l0 l1 l2 l3 l4 l5 l6 l7 l8 l9 : Option Value) (x : Int32) (st : List Value) (σ : dS), den mX7_findMeans 132 [l0, l1, l2, l3, l4, l5, l6, l7, l8, l9] (.int x :: st) σ = if x = 0 then den mX7_findMeans 140 [l0, l1, l2, l3, l4, l5, l6, l7, l8, l9] st σ else den mX7_findMeans 135 [l0, l1, l2, l3, l4, l5, l6, l7, l8, l9] st σ) ∧
  (∀ (l0 l1 l2 l3 l4 l5 l6 l8 l9 : Option Value) (x : Int64) (st : List Value) (σ : dS), den mX7_findMeans 135 [l0, l1, l2, l3, l4, l5, l6, some (.long x), l8, l9] st σ = den mX7_findMeans 137 [l0, l1, l2, l3, l4, l5, l6, some (.long x), l8, l9] (.long x :: st) σ) ∧
  (∀ (l0 l1 l2 l3 l4 l5 l6 l7 l8 l9 : Option Value) (st : List Value) (σ : dS), den mX7_findMeans 137 [l0, l1, l2, l3, l4, l5, l6, l7, l8, l9] st σ = den mX7_findMeans 142 [l0, l1, l2, l3, l4, l5, l6, l7, l8, l9] st σ) ∧
  (∀ (l0 l1 l2 l3 l4 l6 l7 l8 l9 : Option Value) (x : Int64) (st : List Value) (σ : dS), den mX7_findMeans 140 [l0, l1, l2, l3, l4, some (.long x), l6, l7, l8, l9] st σ = den mX7_findMeans 142 [l0, l1, l2, l3, l4, some (.long x), l6, l7, l8, l9] (.long x :: st) σ) ∧
  (∀ (l0 l1 l2 l3 l4 l5 l6 l7 l8 l9 : Option Value) (q : Nat) (i : Int32) (x : Int64) (st : List Value) (σ : dS), den mX7_findMeans 142 [l0, l1, l2, l3, l4, l5, l6, l7, l8, l9] (.long x :: .int i :: .ref q :: st) σ = (dlst σ q i x).bind fun τ => den mX7_findMeans 143 [l0, l1, l2, l3, l4, l5, l6, l7, l8, l9] st τ) ∧
  (∀ (l0 l3 l4 l5 l6 l7 l8 l9 : Option Value) (x : Int32) (y : Int32) (st : List Value) (σ : dS), den mX7_findMeans 143 [l0, some (.int y), some (.int x), l3, l4, l5, l6, l7, l8, l9] st σ = den mX7_findMeans 146 [l0, some (.int y), some (.int (x + (-1))), l3, l4, l5, l6, l7, l8, l9] st σ) ∧
  (∀ (l0 l1 l2 l3 l4 l5 l6 l7 l8 l9 : Option Value) (st : List Value) (σ : dS), den mX7_findMeans 146 [l0, l1, l2, l3, l4, l5, l6, l7, l8, l9] st σ = den mX7_findMeans 9 [l0, l1, l2, l3, l4, l5, l6, l7, l8, l9] st σ) ∧
  (∀ (l0 l1 l2 l3 l4 l5 l6 l7 l8 l9 : Option Value) (st : List Value) (σ : dS), den mX7_findMeans 149 [l0, l1, l2, l3, l4, l5, l6, l7, l8, l9] st σ = den mX7_findMeans 150 [l0, l1, l2, l3, l4, l5, l6, l7, l8, l9] (.int (nI 0) :: st) σ) ∧
  (∀ (l0 l2 l3 l4 l5 l6 l7 l8 l9 : Option Value) (x : Int32) (y : Int32) (st : List Value) (σ : dS), den mX7_findMeans 150 [l0, some (.int y), l2, l3, l4, l5, l6, l7, l8, l9] (.int x :: st) σ = den mX7_findMeans 151 [l0, some (.int y), some (.int x), l3, l4, l5, l6, l7, l8, l9] st σ) ∧
  (∀ (l0 l2 l3 l4 l5 l6 l7 l8 l9 : Option Value) (x : Int32) (st : List Value) (σ : dS), den mX7_findMeans 152 [l0, some (.int x), l2, l3, l4, l5, l6, l7, l8, l9] st σ = den mX7_findMeans 153 [l0, some (.int x), l2, l3, l4, l5, l6, l7, l8, l9] (.int x :: st) σ) ∧
  (∀ (l0 l1 l2 l3 l4 l5 l6 l7 l8 l9 : Option Value) (x y : Int32) (st : List Value) (σ : dS), den mX7_findMeans 153 [l0, l1, l2, l3, l4, l5, l6, l7, l8, l9] (.int y :: .int x :: st) σ = if x < y then den mX7_findMeans 156 [l0, l1, l2, l3, l4, l5, l6, l7, l8, l9] st σ else den mX7_findMeans 209 [l0, l1, l2, l3, l4, l5, l6, l7, l8, l9] st σ) ∧
  (∀ (l1 l2 l3 l4 l5 l6 l7 l8 l9 : Option Value) (x : Nat) (st : List Value) (σ : dS), den mX7_findMeans 156 [some (.ref x), l1, l2, l3, l4, l5, l6, l7, l8, l9] st σ = den mX7_findMeans 157 [some (.ref x), l1, l2, l3, l4, l5, l6, l7, l8, l9] (.ref x :: st) σ) ∧
  (∀ (l0 l1 l2 l3 l4 l5 l6 l7 l8 l9 : Option Value) (st : List Value) (σ : dS), den mX7_findMeans 157 [l0, l1, l2, l3, l4, l5, l6, l7, l8, l9] st σ = den mX7_findMeans 158 [l0, l1, l2, l3, l4, l5, l6, l7, l8, l9] (.int (nI 2) :: st) σ) ∧
  (∀ (l0 l1 l3 l4 l5 l6 l7 l8 l9 : Option Value) (x : Int32) (st : List Value) (σ : dS), den mX7_findMeans 158 [l0, l1, some (.int x), l3, l4, l5, l6, l7, l8, l9] st σ = den mX7_findMeans 159 [l0, l1, some (.int x), l3, l4, l5, l6, l7, l8, l9] (.int x :: st) σ) ∧
  (∀ (l0 l1 l2 l3 l4 l5 l6 l7 l8 l9 : Option Value) (x y : Int32) (st : List Value) (σ : dS), den mX7_findMeans 159 [l0, l1, l2, l3, l4, l5, l6, l7, l8, l9] (.int y :: .int x :: st) σ = den mX7_findMeans 160 [l0, l1, l2, l3, l4, l5, l6, l7, l8, l9] (.int (x * y) :: st) σ) ∧
  (∀ (l0 l1 l2 l3 l4 l5 l6 l7 l8 l9 : Option Value) (st : List Value) (σ : dS), den mX7_findMeans 160 [l0, l1, l2, l3, l4, l5, l6, l7, l8, l9] st σ = den mX7_findMeans 161 [l0, l1, l2, l3, l4, l5, l6, l7, l8, l9] (.int (nI 1) :: st) σ) ∧
  (∀ (l0 l1 l2 l3 l4 l5 l6 l7 l8 l9 : Option Value) (x y : Int32) (st : List Value) (σ : dS), den mX7_findMeans 161 [l0, l1, l2, l3, l4, l5, l6, l7, l8, l9] (.int y :: .int x :: st) σ = den mX7_findMeans 162 [l0, l1, l2, l3, l4, l5, l6, l7, l8, l9] (.int (x + y) :: st) σ) ∧
  (∀ (l0 l1 l2 l3 l4 l5 l6 l7 l8 l9 : Option Value) (a0 : Int32) (q : Nat) (σ : dS), den mX7_findMeans 162 [l0, l1, l2, l3, l4, l5, l6, l7, l8, l9] [.int a0, .ref q] σ = if disO σ q 6 = true then ((dcall mX7_parentOf [.ref q, .int a0] σ).bind fun r => den mX7_findMeans 165 [l0, l1, l2, l3, l4, l5, l6, l7, l8, l9] (r.1.toList ++ []) r.2) else none) ∧
  (∀ (l0 l1 l3 l4 l5 l6 l7 l8 l9 : Option Value) (x : Int32) (y : Int32) (st : List Value) (σ : dS), den mX7_findMeans 165 [l0, l1, some (.int y), l3, l4, l5, l6, l7, l8, l9] (.int x :: st) σ = den mX7_findMeans 166 [l0, l1, some (.int y), some (.int x), l4, l5, l6, l7, l8, l9] st σ) ∧
  (∀ (l1 l2 l3 l4 l5 l6 l7 l8 l9 : Option Value) (x : Nat) (st : List Value) (σ : dS), den mX7_findMeans 166 [some (.ref x), l1, l2, l3, l4, l5, l6, l7, l8, l9] st σ = den mX7_findMeans 167 [some (.ref x), l1, l2, l3, l4, l5, l6, l7, l8, l9] (.ref x :: st) σ) ∧
  (∀ (l0 l1 l2 l3 l4 l5 l6 l7 l8 l9 : Option Value) (q : Nat) (st : List Value) (σ : dS), den mX7_findMeans 167 [l0, l1, l2, l3, l4, l5, l6, l7, l8, l9] (.ref q :: st) σ = (dget σ q 6 17).bind fun v => den mX7_findMeans 170 [l0, l1, l2, l3, l4, l5, l6, l7, l8, l9] (v :: st) σ) ∧
  (∀ (l0 l1 l3 l4 l5 l6 l7 l8 l9 : Option Value) (x : Int32) (st : List Value) (σ : dS), den mX7_findMeans 170 [l0, l1, some (.int x), l3, l4, l5, l6, l7, l8, l9] st σ = den mX7_findMeans 171 [l0, l1, some (.int x), l3, l4, l5, l6, l7, l8, l9] (.int x :: st) σ) ∧
  (∀ (l1 l2 l3 l4 l5 l6 l7 l8 l9 : Option Value) (x : Nat) (st : List Value) (σ : dS), den mX7_findMeans 171 [some (.ref x), l1, l2, l3, l4, l5, l6, l7, l8, l9] st σ = den mX7_findMeans 172 [some (.ref x), l1, l2, l3, l4, l5, l6, l7, l8, l9] (.ref x :: st) σ) ∧
  (∀ (l0 l1 l2 l3 l4 l5 l6 l7 l8 l9 : Option Value) (q : Nat) (st : List Value) (σ : dS), den mX7_findMeans 172 [l0, l1, l2, l3, l4, l5, l6, l7, l8, l9] (.ref q :: st) σ = (dget σ q 6 15).bind fun v => den mX7_findMeans 175 [l0, l1, l2, l3, l4, l5, l6, l7, l8, l9] (v :: st) σ) ∧
  (∀ (l0 l1 l3 l4 l5 l6 l7 l8 l9 : Option Value) (x : Int32) (st : List Value) (σ : dS), den mX7_findMeans 175 [l0, l1, some (.int x), l3, l4, l5, l6, l7, l8, l9] st σ = den mX7_findMeans 176 [l0, l1, some (.int x), l3, l4, l5, l6, l7, l8, l9] (.int x :: st) σ) ∧
  (∀ (l0 l1 l2 l3 l4 l5 l6 l7 l8 l9 : Option Value) (q : Nat) (i : Int32) (st : List Value) (σ : dS), den mX7_findMeans 176 [l0, l1, l2, l3, l4, l5, l6, l7, l8, l9] (.int i :: .ref q :: st) σ = (dbld σ q i).bind fun v => den mX7_findMeans 177 [l0, l1, l2, l3, l4, l5, l6, l7, l8, l9] (.int v :: st) σ) ∧
  (∀ (l0 l1 l2 l3 l4 l5 l6 l7 l8 l9 : Option Value) (x : Int32) (st : List Value) (σ : dS), den mX7_findMeans 177 [l0, l1, l2, l3, l4, l5, l6, l7, l8, l9] (.int x :: st) σ = if x = 0 then den mX7_findMeans 180 [l0, l1, l2, l3, l4, l5, l6, l7, l8, l9] st σ else den mX7_findMeans 197 [l0, l1, l2, l3, l4, l5, l6, l7, l8, l9] st σ) ∧
  (∀ (l0 l1 l2 l4 l5 l6 l7 l8 l9 : Option Value) (x : Int32) (st : List Value) (σ : dS), den mX7_findMeans 180 [l0, l1, l2, some (.int x), l4, l5, l6, l7, l8, l9] st σ = den mX7_findMeans 181 [l0, l1, l2, some (.int x), l4, l5, l6, l7, l8, l9] (.int x :: st) σ) ∧
  (∀ (l0 l1 l2 l3 l4 l5 l6 l7 l8 l9 : Option Value) (x : Int32) (st : List Value) (σ : dS), den mX7_findMeans 181 [l0, l1, l2, l3, l4, l5, l6, l7, l8, l9] (.int x :: st) σ = if 0 < x then den mX7_findMeans 184 [l0, l1, l2, l3, l4, l5, l6, l7, l8, l9] st σ else den mX7_findMeans 201 [l0, l1, l2, l3, l4, l5, l6, l7, l8, l9] st σ) ∧
  (∀ (l1 l2 l3 l4 l5 l6 l7 l8 l9 : Option Value) (x : Nat) (st : List Value) (σ : dS), den mX7_findMeans 184 [some (.ref x), l1, l2, l3, l4, l5, l6, l7, l8, l9] st σ = den mX7_findMeans 185 [some (.ref x), l1, l2, l3, l4, l5, l6, l7, l8, l9] (.ref x :: st) σ) ∧
  (∀ (l0 l1 l2 l3 l4 l5 l6 l7 l8 l9 : Option Value) (q : Nat) (st : List Value) (σ : dS), den mX7_findMeans 185 [l0, l1, l2, l3, l4, l5, l6, l7, l8, l9] (.ref q :: st) σ = (dget σ q 6 17).bind fun v => den mX7_findMeans 188 [l0, l1, l2, l3, l4, l5, l6, l7, l8, l9] (v :: st) σ) ∧
  (∀ (l0 l1 l2 l4 l5 l6 l7 l8 l9 : Option Value) (x : Int32) (st : List Value) (σ : dS), den mX7_findMeans 188 [l0, l1, l2, some (.int x), l4, l5, l6, l7, l8, l9] st σ = den mX7_findMeans 189 [l0, l1, l2, some (.int x), l4, l5, l6, l7, l8, l9] (.int x :: st) σ) ∧
  (∀ (l0 l1 l2 l3 l4 l5 l6 l7 l8 l9 : Option Value) (st : List Value) (σ : dS), den mX7_findMeans 189 [l0, l1, l2, l3, l4, l5, l6, l7, l8, l9] st σ = den mX7_findMeans 190 [l0, l1, l2, l3, l4, l5, l6, l7, l8, l9] (.int (nI 1) :: st) σ) ∧
  (∀ (l0 l1 l2 l3 l4 l5 l6 l7 l8 l9 : Option Value) (x y : Int32) (st : List Value) (σ : dS), den mX7_findMeans 190 [l0, l1, l2, l3, l4, l5, l6, l7, l8, l9] (.int y :: .int x :: st) σ = den mX7_findMeans 191 [l0, l1, l2, l3, l4, l5, l6, l7, l8, l9] (.int (x - y) :: st) σ) ∧
  (∀ (l0 l1 l2 l3 l4 l5 l6 l7 l8 l9 : Option Value) (st : List Value) (σ : dS), den mX7_findMeans 191 [l0, l1, l2, l3, l4, l5, l6, l7, l8, l9] st σ = den mX7_findMeans 192 [l0, l1, l2, l3, l4, l5, l6, l7, l8, l9] (.int (nI 2) :: st) σ) ∧
  (∀ (l0 l1 l2 l3 l4 l5 l6 l7 l8 l9 : Option Value) (x y : Int32) (st : List Value) (σ : dS), den mX7_findMeans 192 [l0, l1, l2, l3, l4, l5, l6, l7, l8, l9] (.int y :: .int x :: st) σ = if y = 0 then none else den mX7_findMeans 193 [l0, l1, l2, l3, l4, l5, l6, l7, l8, l9] (.int (x / y) :: st) σ) ∧
  (∀ (l0 l1 l2 l3 l4 l5 l6 l7 l8 l9 : Option Value) (q : Nat) (i : Int32) (st : List Value) (σ : dS), den mX7_findMeans 193 [l0, l1, l2, l3, l4, l5, l6, l7, l8, l9] (.int i :: .ref q :: st) σ = (dbld σ q i).bind fun v => den mX7_findMeans 194 [l0, l1, l2, l3, l4, l5, l6, l7, l8, l9] (.int v :: st) σ) :=
  ⟨fun l0 l1 l2 l3 l4 l5 l6 l7 l8 l9 q st σ => dn_getfield (f := (6, 15, 786)) eX7_findMeans dX7_findMeans_127 (by decide +kernel),
  fun l0 l1 l3 l4 l5 l6 l7 l8 l9 x st σ => dn_iload_n eX7_findMeans dX7_findMeans_130 rfl,
  fun l0 l1 l2 l3 l4 l5 l6 l7 l8 l9 q i st σ => dn_baload eX7_findMeans dX7_findMeans_131,
  fun l0 l1 l2 l3 l4 l5 l6 l7 l8 l9 x st σ => dn_if_eq eX7_findMeans dX7_findMeans_132 (by decide),
  fun l0 l1 l2 l3 l4 l5 l6 l8 l9 x st σ => dn_lload eX7_findMeans dX7_findMeans_135 rfl,
  fun l0 l1 l2 l3 l4 l5 l6 l7 l8 l9 st σ => dn_goto eX7_findMeans dX7_findMeans_137 (by decide),
  fun l0 l1 l2 l3 l4 l6 l7 l8 l9 x st σ => dn_lload eX7_findMeans dX7_findMeans_140 rfl,
  fun l0 l1 l2 l3 l4 l5 l6 l7 l8 l9 q i x st σ => dn_lastore eX7_findMeans dX7_findMeans_142,
  fun l0 l3 l4 l5 l6 l7 l8 l9 x y st σ => dn_iinc (v := (-1)) eX7_findMeans dX7_findMeans_143 rfl kc_iconst_m1 rfl,
  fun l0 l1 l2 l3 l4 l5 l6 l7 l8 l9 st σ => dn_goto eX7_findMeans dX7_findMeans_146 (by decide),
  fun l0 l1 l2 l3 l4 l5 l6 l7 l8 l9 st σ => dn_iconst eX7_findMeans dX7_findMeans_149 kc_iconst_0,
  fun l0 l2 l3 l4 l5 l6 l7 l8 l9 x y st σ => dn_istore_n eX7_findMeans dX7_findMeans_150 rfl,
  fun l0 l2 l3 l4 l5 l6 l7 l8 l9 x st σ => dn_iload_n eX7_findMeans dX7_findMeans_152 rfl,
  fun l0 l1 l2 l3 l4 l5 l6 l7 l8 l9 x y st σ => dn_icmp_ge eX7_findMeans dX7_findMeans_153 (by decide),
  fun l1 l2 l3 l4 l5 l6 l7 l8 l9 x st σ => dn_aload_n eX7_findMeans dX7_findMeans_156 rfl,
  fun l0 l1 l2 l3 l4 l5 l6 l7 l8 l9 st σ => dn_iconst eX7_findMeans dX7_findMeans_157 kc_iconst_2,
  fun l0 l1 l3 l4 l5 l6 l7 l8 l9 x st σ => dn_iload_n eX7_findMeans dX7_findMeans_158 rfl,
  fun l0 l1 l2 l3 l4 l5 l6 l7 l8 l9 x y st σ => dn_imul eX7_findMeans dX7_findMeans_159,
  fun l0 l1 l2 l3 l4 l5 l6 l7 l8 l9 st σ => dn_iconst eX7_findMeans dX7_findMeans_160 kc_iconst_1,
  fun l0 l1 l2 l3 l4 l5 l6 l7 l8 l9 x y st σ => dn_iadd eX7_findMeans dX7_findMeans_161,
  fun l0 l1 l2 l3 l4 l5 l6 l7 l8 l9 a0 q σ => rX7_findMeans_162 l0 l1 l2 l3 l4 l5 l6 l7 l8 l9 a0 q σ,
  fun l0 l1 l3 l4 l5 l6 l7 l8 l9 x y st σ => dn_istore_n eX7_findMeans dX7_findMeans_165 rfl,
  fun l1 l2 l3 l4 l5 l6 l7 l8 l9 x st σ => dn_aload_n eX7_findMeans dX7_findMeans_166 rfl,
  fun l0 l1 l2 l3 l4 l5 l6 l7 l8 l9 q st σ => dn_getfield (f := (6, 17, 788)) eX7_findMeans dX7_findMeans_167 (by decide +kernel),
  fun l0 l1 l3 l4 l5 l6 l7 l8 l9 x st σ => dn_iload_n eX7_findMeans dX7_findMeans_170 rfl,
  fun l1 l2 l3 l4 l5 l6 l7 l8 l9 x st σ => dn_aload_n eX7_findMeans dX7_findMeans_171 rfl,
  fun l0 l1 l2 l3 l4 l5 l6 l7 l8 l9 q st σ => dn_getfield (f := (6, 15, 786)) eX7_findMeans dX7_findMeans_172 (by decide +kernel),
  fun l0 l1 l3 l4 l5 l6 l7 l8 l9 x st σ => dn_iload_n eX7_findMeans dX7_findMeans_175 rfl,
  fun l0 l1 l2 l3 l4 l5 l6 l7 l8 l9 q i st σ => dn_baload eX7_findMeans dX7_findMeans_176,
  fun l0 l1 l2 l3 l4 l5 l6 l7 l8 l9 x st σ => dn_if_ne eX7_findMeans dX7_findMeans_177 (by decide),
  fun l0 l1 l2 l4 l5 l6 l7 l8 l9 x st σ => dn_iload_n eX7_findMeans dX7_findMeans_180 rfl,
  fun l0 l1 l2 l3 l4 l5 l6 l7 l8 l9 x st σ => dn_if_le eX7_findMeans dX7_findMeans_181 (by decide),
  fun l1 l2 l3 l4 l5 l6 l7 l8 l9 x st σ => dn_aload_n eX7_findMeans dX7_findMeans_184 rfl,
  fun l0 l1 l2 l3 l4 l5 l6 l7 l8 l9 q st σ => dn_getfield (f := (6, 17, 788)) eX7_findMeans dX7_findMeans_185 (by decide +kernel),
  fun l0 l1 l2 l4 l5 l6 l7 l8 l9 x st σ => dn_iload_n eX7_findMeans dX7_findMeans_188 rfl,
  fun l0 l1 l2 l3 l4 l5 l6 l7 l8 l9 st σ => dn_iconst eX7_findMeans dX7_findMeans_189 kc_iconst_1,
  fun l0 l1 l2 l3 l4 l5 l6 l7 l8 l9 x y st σ => dn_isub eX7_findMeans dX7_findMeans_190,
  fun l0 l1 l2 l3 l4 l5 l6 l7 l8 l9 st σ => dn_iconst eX7_findMeans dX7_findMeans_191 kc_iconst_2,
  fun l0 l1 l2 l3 l4 l5 l6 l7 l8 l9 x y st σ => dn_idiv eX7_findMeans dX7_findMeans_192,
  fun l0 l1 l2 l3 l4 l5 l6 l7 l8 l9 q i st σ => dn_baload eX7_findMeans dX7_findMeans_193⟩
set_option maxRecDepth 20000 in
theorem SX7_findMeans_3 : (∀ (l0 l1 l2 l3 l4 l5 l6 l7 l8 l9 : Option Value) (x : Int32) (st : List Value) (σ : dS), den mX7_findMeans 194 [l0, l1, l2, l3, l4, l5, l6, l7, l8, l9] (.int x :: st) σ = if x = 0 then den mX7_findMeans 201 [l0, l1, l2, l3, l4, l5, l6, l7, l8, l9] st σ else den mX7_findMeans 197 [l0, l1, l2, l3, l4, l5, l6, l7, l8, l9] st σ) ∧
  (∀ (l0 l1 l2 l3 l4 l5 l6 l7 l8 l9 : Option Value) (st : List Value) (σ : dS), den mX7_findMeans 197 [l0, l1, l2, l3, l4, l5, l6, l7, l8, l9] st σ = den mX7_findMeans 198 [l0, l1, l2, l3, l4, l5, l6, l7, l8, l9] (.int (nI 1) :: st) σ) ∧
  (∀ (l0 l1 l2 l3 l4 l5 l6 l7 l8 l9 : Option Value) (st : List Value) (σ : dS), den mX7_findMeans 198 [l0, l1, l2, l3, l4, l5, l6, l7, l8, l9] st σ = den mX7_findMeans 202 [l0, l1, l2, l3, l4, l5, l6, l7, l8, l9] st σ) ∧
  (∀ (l0 l1 l2 l3 l4 l5 l6 l7 l8 l9 : Option Value) (st : List Value) (σ : dS), den mX7_findMeans 201 [l0, l1, l2, l3, l4, l5, l6, l7, l8, l9] st σ = den mX7_findMeans 202 [l0, l1, l2, l3, l4, l5, l6, l7, l8, l9] (.int (nI 0) :: st) σ) ∧
  (∀ (l0 l1 l2 l3 l4 l5 l6 l7 l8 l9 : Option Value) (q : Nat) (i x : Int32) (st : List Value) (σ : dS), den mX7_findMeans 202 [l0, l1, l2, l3, l4, l5, l6, l7, l8, l9] (.int x :: .int i :: .ref q :: st) σ = (dbst σ q i x).bind fun τ => den mX7_findMeans 203 [l0, l1, l2, l3, l4, l5, l6, l7, l8, l9] st τ) ∧
  (∀ (l0 l3 l4 l5 l6 l7 l8 l9 : Option Value) (x : Int32) (y : Int32) (st : List Value) (σ : dS), den mX7_findMeans 203 [l0, some (.int y), some (.int x), l3, l4, l5, l6, l7, l8, l9] st σ = den mX7_findMeans 206 [l0, some (.int y), some (.int (x + nI 1)), l3, l4, l5, l6, l7, l8, l9] st σ) ∧
  (∀ (l0 l1 l2 l3 l4 l5 l6 l7 l8 l9 : Option Value) (st : List Value) (σ : dS), den mX7_findMeans 206 [l0, l1, l2, l3, l4, l5, l6, l7, l8, l9] st σ = den mX7_findMeans 151 [l0, l1, l2, l3, l4, l5, l6, l7, l8, l9] st σ) ∧
  (∀ (l0 l1 l2 l3 l4 l5 l6 l7 l8 l9 : Option Value) (σ : dS), den mX7_findMeans 209 [l0, l1, l2, l3, l4, l5, l6, l7, l8, l9] [] σ = some (none, σ)) :=
  ⟨fun l0 l1 l2 l3 l4 l5 l6 l7 l8 l9 x st σ => dn_if_eq eX7_findMeans dX7_findMeans_194 (by decide),
  fun l0 l1 l2 l3 l4 l5 l6 l7 l8 l9 st σ => dn_iconst eX7_findMeans dX7_findMeans_197 kc_iconst_1,
  fun l0 l1 l2 l3 l4 l5 l6 l7 l8 l9 st σ => dn_goto eX7_findMeans dX7_findMeans_198 (by decide),
  fun l0 l1 l2 l3 l4 l5 l6 l7 l8 l9 st σ => dn_iconst eX7_findMeans dX7_findMeans_201 kc_iconst_0,
  fun l0 l1 l2 l3 l4 l5 l6 l7 l8 l9 q i x st σ => dn_bastore eX7_findMeans dX7_findMeans_202,
  fun l0 l3 l4 l5 l6 l7 l8 l9 x y st σ => dn_iinc (v := nI 1) eX7_findMeans dX7_findMeans_203 rfl kc_iconst_1 rfl,
  fun l0 l1 l2 l3 l4 l5 l6 l7 l8 l9 st σ => dn_goto eX7_findMeans dX7_findMeans_206 (by decide),
  fun l0 l1 l2 l3 l4 l5 l6 l7 l8 l9 σ => dn_return eX7_findMeans dX7_findMeans_209 rfl⟩
theorem CX7_guardedMany (a0 : Nat) (σ : dS) : dcall mX7_guardedMany [.ref a0] σ = den mX7_guardedMany 0 [some (.ref a0), none, none] [] σ := dcall_den (by decide) rfl
theorem rX7_guardedMany_1 (l0 l1 l2 : Option Value) (q : Nat) (σ : dS) : den mX7_guardedMany 1 [l0, l1, l2] [.ref q] σ = if disO σ q 6 = true then ((dcall mX7_findMeans [.ref q] σ).bind fun r => den mX7_guardedMany 4 [l0, l1, l2] (r.1.toList ++ []) r.2) else none := by
  by_cases h : disO σ q 6 = true
  · rw [if_pos h]; exact dn_callV (e := (0, 136, 974)) (as := []) (rest := []) eX7_guardedMany dX7_guardedMany_1 (by decide +kernel) rfl (by decide +kernel) rfl (dcat_le rfl) (dlen_le rfl) rfl h
  · rw [if_neg h]; exact den_noV (e := (0, 136, 974)) (as := []) (rest := []) eX7_guardedMany dX7_guardedMany_1 (by decide +kernel) rfl rfl rfl h
theorem hX7_guardedMany_8 (l0 l1 : Option Value) (x : Int32) (st : List Value) (σ : dS) : den mX7_guardedMany 8 [l0, l1, some (.int x)] st σ = den mX7_guardedMany 9 [l0, l1, some (.int x)] (.int x :: st) σ := dn_iload_n eX7_guardedMany dX7_guardedMany_8 rfl
theorem rX7_guardedMany_10 (l0 l1 l2 : Option Value) (b0 : Int32) (q : Nat) (σ : dS) : den mX7_guardedMany 10 [l0, l1, l2] [.ref q, .int b0] σ = if disO σ q 6 = true then ((dcall mX7_ifs [.ref q] σ).bind fun r => den mX7_guardedMany 13 [l0, l1, l2] (r.1.toList ++ [.int b0]) r.2) else none := by
  by_cases h : disO σ q 6 = true
  · rw [if_pos h]; exact dn_callV (e := (0, 122, 943)) (as := []) (rest := [.int b0]) eX7_guardedMany dX7_guardedMany_10 (by decide +kernel) rfl (by decide +kernel) rfl (dcat_le rfl) (dlen_le rfl) rfl h
  · rw [if_neg h]; exact den_noV (e := (0, 122, 943)) (as := []) (rest := [.int b0]) eX7_guardedMany dX7_guardedMany_10 (by decide +kernel) rfl rfl rfl h
set_option maxRecDepth 20000 in
theorem SX7_guardedMany : (∀ (l1 l2 : Option Value) (x : Nat) (st : List Value) (σ : dS), den mX7_guardedMany 0 [some (.ref x), l1, l2] st σ = den mX7_guardedMany 1 [some (.ref x), l1, l2] (.ref x :: st) σ) ∧
  (∀ (l0 l1 l2 : Option Value) (q : Nat) (σ : dS), den mX7_guardedMany 1 [l0, l1, l2] [.ref q] σ = if disO σ q 6 = true then ((dcall mX7_findMeans [.ref q] σ).bind fun r => den mX7_guardedMany 4 [l0, l1, l2] (r.1.toList ++ []) r.2) else none) ∧
  (∀ (l0 l1 l2 : Option Value) (st : List Value) (σ : dS), den mX7_guardedMany 4 [l0, l1, l2] st σ = den mX7_guardedMany 5 [l0, l1, l2] (.int (nI 0) :: st) σ) ∧
  (∀ (l1 l2 : Option Value) (x : Int32) (y : Nat) (st : List Value) (σ : dS), den mX7_guardedMany 5 [some (.ref y), l1, l2] (.int x :: st) σ = den mX7_guardedMany 6 [some (.ref y), some (.int x), l2] st σ) ∧
  (∀ (l0 l1 l2 : Option Value) (st : List Value) (σ : dS), den mX7_guardedMany 6 [l0, l1, l2] st σ = den mX7_guardedMany 7 [l0, l1, l2] (.int (nI 0) :: st) σ) ∧
  (∀ (l0 l2 : Option Value) (x : Int32) (y : Int32) (st : List Value) (σ : dS), den mX7_guardedMany 7 [l0, some (.int y), l2] (.int x :: st) σ = den mX7_guardedMany 8 [l0, some (.int y), some (.int x)] st σ) ∧
  (∀ (l1 l2 : Option Value) (x : Nat) (st : List Value) (σ : dS), den mX7_guardedMany 9 [some (.ref x), l1, l2] st σ = den mX7_guardedMany 10 [some (.ref x), l1, l2] (.ref x :: st) σ) ∧
  (∀ (l0 l1 l2 : Option Value) (b0 : Int32) (q : Nat) (σ : dS), den mX7_guardedMany 10 [l0, l1, l2] [.ref q, .int b0] σ = if disO σ q 6 = true then ((dcall mX7_ifs [.ref q] σ).bind fun r => den mX7_guardedMany 13 [l0, l1, l2] (r.1.toList ++ [.int b0]) r.2) else none) ∧
  (∀ (l0 l1 l2 : Option Value) (x y : Int32) (st : List Value) (σ : dS), den mX7_guardedMany 13 [l0, l1, l2] (.int y :: .int x :: st) σ = if x < y then den mX7_guardedMany 16 [l0, l1, l2] st σ else den mX7_guardedMany 34 [l0, l1, l2] st σ) ∧
  (∀ (l0 l2 : Option Value) (x : Int32) (st : List Value) (σ : dS), den mX7_guardedMany 16 [l0, some (.int x), l2] st σ = den mX7_guardedMany 17 [l0, some (.int x), l2] (.int x :: st) σ) ∧
  (∀ (l1 l2 : Option Value) (x : Nat) (st : List Value) (σ : dS), den mX7_guardedMany 17 [some (.ref x), l1, l2] st σ = den mX7_guardedMany 18 [some (.ref x), l1, l2] (.ref x :: st) σ) ∧
  (∀ (l0 l1 l2 : Option Value) (q : Nat) (st : List Value) (σ : dS), den mX7_guardedMany 18 [l0, l1, l2] (.ref q :: st) σ = (dget σ q 6 17).bind fun v => den mX7_guardedMany 21 [l0, l1, l2] (v :: st) σ) ∧
  (∀ (l0 l1 : Option Value) (x : Int32) (st : List Value) (σ : dS), den mX7_guardedMany 21 [l0, l1, some (.int x)] st σ = den mX7_guardedMany 22 [l0, l1, some (.int x)] (.int x :: st) σ) ∧
  (∀ (l0 l1 l2 : Option Value) (q : Nat) (i : Int32) (st : List Value) (σ : dS), den mX7_guardedMany 22 [l0, l1, l2] (.int i :: .ref q :: st) σ = (dbld σ q i).bind fun v => den mX7_guardedMany 23 [l0, l1, l2] (.int v :: st) σ) ∧
  (∀ (l0 l1 l2 : Option Value) (a0 : Int32) (b0 : Int32) (σ : dS), den mX7_guardedMany 23 [l0, l1, l2] [.int a0, .int b0] σ = (dcall mX7_flag [.int a0] σ).bind fun r => den mX7_guardedMany 26 [l0, l1, l2] (r.1.toList ++ [.int b0]) r.2) ∧
  (∀ (l0 l1 l2 : Option Value) (x y : Int32) (st : List Value) (σ : dS), den mX7_guardedMany 26 [l0, l1, l2] (.int y :: .int x :: st) σ = den mX7_guardedMany 27 [l0, l1, l2] (.int (x + y) :: st) σ) ∧
  (∀ (l1 l2 : Option Value) (x : Int32) (y : Nat) (st : List Value) (σ : dS), den mX7_guardedMany 27 [some (.ref y), l1, l2] (.int x :: st) σ = den mX7_guardedMany 28 [some (.ref y), some (.int x), l2] st σ) ∧
  (∀ (l0 : Option Value) (x : Int32) (y : Int32) (st : List Value) (σ : dS), den mX7_guardedMany 28 [l0, some (.int y), some (.int x)] st σ = den mX7_guardedMany 31 [l0, some (.int y), some (.int (x + nI 1))] st σ) ∧
  (∀ (l0 l1 l2 : Option Value) (st : List Value) (σ : dS), den mX7_guardedMany 31 [l0, l1, l2] st σ = den mX7_guardedMany 8 [l0, l1, l2] st σ) ∧
  (∀ (l0 l2 : Option Value) (x : Int32) (st : List Value) (σ : dS), den mX7_guardedMany 34 [l0, some (.int x), l2] st σ = den mX7_guardedMany 35 [l0, some (.int x), l2] (.int x :: st) σ) ∧
  (∀ (l0 l1 l2 : Option Value) (v : Int32) (σ : dS), den mX7_guardedMany 35 [l0, l1, l2] [.int v] σ = some (some (.int v), σ)) :=
  ⟨fun l1 l2 x st σ => dn_aload_n eX7_guardedMany dX7_guardedMany_0 rfl,
  fun l0 l1 l2 q σ => rX7_guardedMany_1 l0 l1 l2 q σ,
  fun l0 l1 l2 st σ => dn_iconst eX7_guardedMany dX7_guardedMany_4 kc_iconst_0,
  fun l1 l2 x y st σ => dn_istore_n eX7_guardedMany dX7_guardedMany_5 rfl,
  fun l0 l1 l2 st σ => dn_iconst eX7_guardedMany dX7_guardedMany_6 kc_iconst_0,
  fun l0 l2 x y st σ => dn_istore_n eX7_guardedMany dX7_guardedMany_7 rfl,
  fun l1 l2 x st σ => dn_aload_n eX7_guardedMany dX7_guardedMany_9 rfl,
  fun l0 l1 l2 b0 q σ => rX7_guardedMany_10 l0 l1 l2 b0 q σ,
  fun l0 l1 l2 x y st σ => dn_icmp_ge eX7_guardedMany dX7_guardedMany_13 (by decide),
  fun l0 l2 x st σ => dn_iload_n eX7_guardedMany dX7_guardedMany_16 rfl,
  fun l1 l2 x st σ => dn_aload_n eX7_guardedMany dX7_guardedMany_17 rfl,
  fun l0 l1 l2 q st σ => dn_getfield (f := (6, 17, 788)) eX7_guardedMany dX7_guardedMany_18 (by decide +kernel),
  fun l0 l1 x st σ => dn_iload_n eX7_guardedMany dX7_guardedMany_21 rfl,
  fun l0 l1 l2 q i st σ => dn_baload eX7_guardedMany dX7_guardedMany_22,
  fun l0 l1 l2 a0 b0 σ => dn_callS (e := (1, 103, 951)) (as := [.int a0]) (rest := [.int b0]) eX7_guardedMany dX7_guardedMany_23 (by decide +kernel) (Or.inl rfl) (by decide +kernel) rfl (dcat_le rfl) (dlen_le rfl) rfl,
  fun l0 l1 l2 x y st σ => dn_iadd eX7_guardedMany dX7_guardedMany_26,
  fun l1 l2 x y st σ => dn_istore_n eX7_guardedMany dX7_guardedMany_27 rfl,
  fun l0 x y st σ => dn_iinc (v := nI 1) eX7_guardedMany dX7_guardedMany_28 rfl kc_iconst_1 rfl,
  fun l0 l1 l2 st σ => dn_goto eX7_guardedMany dX7_guardedMany_31 (by decide),
  fun l0 l2 x st σ => dn_iload_n eX7_guardedMany dX7_guardedMany_34 rfl,
  fun l0 l1 l2 v σ => dn_ireturn eX7_guardedMany dX7_guardedMany_35 rfl⟩
theorem CX7_rule (a0 : Nat) (a1 : Int32) (σ : dS) : dcall mX7_rule [.ref a0, .int a1] σ = den mX7_rule 0 [some (.ref a0), some (.int a1)] [] σ := dcall_den (by decide) rfl
theorem rX7_rule_1 (l0 l1 : Option Value) (x : Int32) (st : List Value) (σ : dS) : den mX7_rule 1 [l0, l1] (.int x :: st) σ = if x = nI 0 then den mX7_rule 40 [l0, l1] st σ else if x = nI 1 then den mX7_rule 48 [l0, l1] st σ else if x = nI 2 then den mX7_rule 53 [l0, l1] st σ else if x = nI 3 then den mX7_rule 58 [l0, l1] st σ else if x = nI 4 then den mX7_rule 66 [l0, l1] st σ else if x = nI 5 then den mX7_rule 71 [l0, l1] st σ else den mX7_rule 76 [l0, l1] st σ := by
  by_cases h0 : x = nI 0
  · rw [if_pos h0, h0]; exact dn_swIn (off := 39) eX7_rule dX7_rule_1 (by decide +kernel) (by decide +kernel) (by decide)
  rw [if_neg h0]
  by_cases h1 : x = nI 1
  · rw [if_pos h1, h1]; exact dn_swIn (off := 47) eX7_rule dX7_rule_1 (by decide +kernel) (by decide +kernel) (by decide)
  rw [if_neg h1]
  by_cases h2 : x = nI 2
  · rw [if_pos h2, h2]; exact dn_swIn (off := 52) eX7_rule dX7_rule_1 (by decide +kernel) (by decide +kernel) (by decide)
  rw [if_neg h2]
  by_cases h3 : x = nI 3
  · rw [if_pos h3, h3]; exact dn_swIn (off := 57) eX7_rule dX7_rule_1 (by decide +kernel) (by decide +kernel) (by decide)
  rw [if_neg h3]
  by_cases h4 : x = nI 4
  · rw [if_pos h4, h4]; exact dn_swIn (off := 65) eX7_rule dX7_rule_1 (by decide +kernel) (by decide +kernel) (by decide)
  rw [if_neg h4]
  by_cases h5 : x = nI 5
  · rw [if_pos h5, h5]; exact dn_swIn (off := 70) eX7_rule dX7_rule_1 (by decide +kernel) (by decide +kernel) (by decide)
  rw [if_neg h5]
  refine dn_swOut eX7_rule dX7_rule_1 (by decide) ?_
  have g : x.toInt ≠ 0 ∧ x.toInt ≠ 1 ∧ x.toInt ≠ 2 ∧ x.toInt ≠ 3 ∧ x.toInt ≠ 4 ∧ x.toInt ≠ 5 := ⟨sw_ne h0, sw_ne h1, sw_ne h2, sw_ne h3, sw_ne h4, sw_ne h5⟩
  omega
theorem rX7_rule_49 (l0 l1 : Option Value) (q : Nat) (σ : dS) : den mX7_rule 49 [l0, l1] [.ref q] σ = if disO σ q 6 = true then ((dcall mX7_ifs [.ref q] σ).bind fun r => den mX7_rule 52 [l0, l1] (r.1.toList ++ []) r.2) else none := by
  by_cases h : disO σ q 6 = true
  · rw [if_pos h]; exact dn_callV (e := (0, 122, 943)) (as := []) (rest := []) eX7_rule dX7_rule_49 (by decide +kernel) rfl (by decide +kernel) rfl (dcat_le rfl) (dlen_le rfl) rfl h
  · rw [if_neg h]; exact den_noV (e := (0, 122, 943)) (as := []) (rest := []) eX7_rule dX7_rule_49 (by decide +kernel) rfl rfl rfl h
theorem rX7_rule_54 (l0 l1 : Option Value) (q : Nat) (σ : dS) : den mX7_rule 54 [l0, l1] [.ref q] σ = if disO σ q 6 = true then ((dcall mX7_deepest [.ref q] σ).bind fun r => den mX7_rule 57 [l0, l1] (r.1.toList ++ []) r.2) else none := by
  by_cases h : disO σ q 6 = true
  · rw [if_pos h]; exact dn_callV (e := (0, 134, 954)) (as := []) (rest := []) eX7_rule dX7_rule_54 (by decide +kernel) rfl (by decide +kernel) rfl (dcat_le rfl) (dlen_le rfl) rfl h
  · rw [if_neg h]; exact den_noV (e := (0, 134, 954)) (as := []) (rest := []) eX7_rule dX7_rule_54 (by decide +kernel) rfl rfl rfl h
theorem rX7_rule_67 (l0 l1 : Option Value) (q : Nat) (σ : dS) : den mX7_rule 67 [l0, l1] [.ref q] σ = if disO σ q 6 = true then ((dcall mX7_guardedMany [.ref q] σ).bind fun r => den mX7_rule 70 [l0, l1] (r.1.toList ++ []) r.2) else none := by
  by_cases h : disO σ q 6 = true
  · rw [if_pos h]; exact dn_callV (e := (0, 137, 970)) (as := []) (rest := []) eX7_rule dX7_rule_67 (by decide +kernel) rfl (by decide +kernel) rfl (dcat_le rfl) (dlen_le rfl) rfl h
  · rw [if_neg h]; exact den_noV (e := (0, 137, 970)) (as := []) (rest := []) eX7_rule dX7_rule_67 (by decide +kernel) rfl rfl rfl h
theorem rX7_rule_72 (l0 l1 : Option Value) (q : Nat) (σ : dS) : den mX7_rule 72 [l0, l1] [.ref q] σ = if disO σ q 6 = true then ((dcall mX7_flatOfAll [.ref q] σ).bind fun r => den mX7_rule 75 [l0, l1] (r.1.toList ++ []) r.2) else none := by
  by_cases h : disO σ q 6 = true
  · rw [if_pos h]; exact dn_callV (e := (0, 133, 1000)) (as := []) (rest := []) eX7_rule dX7_rule_72 (by decide +kernel) rfl (by decide +kernel) rfl (dcat_le rfl) (dlen_le rfl) rfl h
  · rw [if_neg h]; exact den_noV (e := (0, 133, 1000)) (as := []) (rest := []) eX7_rule dX7_rule_72 (by decide +kernel) rfl rfl rfl h
set_option maxRecDepth 20000 in
theorem SX7_rule : (∀ (l0 : Option Value) (x : Int32) (st : List Value) (σ : dS), den mX7_rule 0 [l0, some (.int x)] st σ = den mX7_rule 1 [l0, some (.int x)] (.int x :: st) σ) ∧
  (∀ (l0 l1 : Option Value) (x : Int32) (st : List Value) (σ : dS), den mX7_rule 1 [l0, l1] (.int x :: st) σ = if x = nI 0 then den mX7_rule 40 [l0, l1] st σ else if x = nI 1 then den mX7_rule 48 [l0, l1] st σ else if x = nI 2 then den mX7_rule 53 [l0, l1] st σ else if x = nI 3 then den mX7_rule 58 [l0, l1] st σ else if x = nI 4 then den mX7_rule 66 [l0, l1] st σ else if x = nI 5 then den mX7_rule 71 [l0, l1] st σ else den mX7_rule 76 [l0, l1] st σ) ∧
  (∀ (l1 : Option Value) (x : Nat) (st : List Value) (σ : dS), den mX7_rule 40 [some (.ref x), l1] st σ = den mX7_rule 41 [some (.ref x), l1] (.ref x :: st) σ) ∧
  (∀ (l0 l1 : Option Value) (q : Nat) (st : List Value) (σ : dS), den mX7_rule 41 [l0, l1] (.ref q :: st) σ = (dget σ q 6 0).bind fun v => den mX7_rule 44 [l0, l1] (v :: st) σ) ∧
  (∀ (l0 l1 : Option Value) (st : List Value) (σ : dS), den mX7_rule 44 [l0, l1] st σ = den mX7_rule 46 [l0, l1] (.int (nI 120) :: st) σ) ∧
  (∀ (l0 l1 : Option Value) (q : Nat) (i : Int32) (st : List Value) (σ : dS), den mX7_rule 46 [l0, l1] (.int i :: .ref q :: st) σ = if q ≤ dN then (dald σ q 0 i).bind (fun v => den mX7_rule 47 [l0, l1] (.int v :: st) σ) else none) ∧
  (∀ (l0 l1 : Option Value) (v : Int32) (σ : dS), den mX7_rule 47 [l0, l1] [.int v] σ = some (some (.int v), σ)) ∧
  (∀ (l1 : Option Value) (x : Nat) (st : List Value) (σ : dS), den mX7_rule 48 [some (.ref x), l1] st σ = den mX7_rule 49 [some (.ref x), l1] (.ref x :: st) σ) ∧
  (∀ (l0 l1 : Option Value) (q : Nat) (σ : dS), den mX7_rule 49 [l0, l1] [.ref q] σ = if disO σ q 6 = true then ((dcall mX7_ifs [.ref q] σ).bind fun r => den mX7_rule 52 [l0, l1] (r.1.toList ++ []) r.2) else none) ∧
  (∀ (l0 l1 : Option Value) (v : Int32) (σ : dS), den mX7_rule 52 [l0, l1] [.int v] σ = some (some (.int v), σ)) ∧
  (∀ (l1 : Option Value) (x : Nat) (st : List Value) (σ : dS), den mX7_rule 53 [some (.ref x), l1] st σ = den mX7_rule 54 [some (.ref x), l1] (.ref x :: st) σ) ∧
  (∀ (l0 l1 : Option Value) (q : Nat) (σ : dS), den mX7_rule 54 [l0, l1] [.ref q] σ = if disO σ q 6 = true then ((dcall mX7_deepest [.ref q] σ).bind fun r => den mX7_rule 57 [l0, l1] (r.1.toList ++ []) r.2) else none) ∧
  (∀ (l0 l1 : Option Value) (v : Int32) (σ : dS), den mX7_rule 57 [l0, l1] [.int v] σ = some (some (.int v), σ)) ∧
  (∀ (l1 : Option Value) (x : Nat) (st : List Value) (σ : dS), den mX7_rule 58 [some (.ref x), l1] st σ = den mX7_rule 59 [some (.ref x), l1] (.ref x :: st) σ) ∧
  (∀ (l0 l1 : Option Value) (q : Nat) (st : List Value) (σ : dS), den mX7_rule 59 [l0, l1] (.ref q :: st) σ = (dget σ q 6 0).bind fun v => den mX7_rule 62 [l0, l1] (v :: st) σ) ∧
  (∀ (l0 l1 : Option Value) (st : List Value) (σ : dS), den mX7_rule 62 [l0, l1] st σ = den mX7_rule 64 [l0, l1] (.int (nI 121) :: st) σ) ∧
  (∀ (l0 l1 : Option Value) (q : Nat) (i : Int32) (st : List Value) (σ : dS), den mX7_rule 64 [l0, l1] (.int i :: .ref q :: st) σ = if q ≤ dN then (dald σ q 0 i).bind (fun v => den mX7_rule 65 [l0, l1] (.int v :: st) σ) else none) ∧
  (∀ (l0 l1 : Option Value) (v : Int32) (σ : dS), den mX7_rule 65 [l0, l1] [.int v] σ = some (some (.int v), σ)) ∧
  (∀ (l1 : Option Value) (x : Nat) (st : List Value) (σ : dS), den mX7_rule 66 [some (.ref x), l1] st σ = den mX7_rule 67 [some (.ref x), l1] (.ref x :: st) σ) ∧
  (∀ (l0 l1 : Option Value) (q : Nat) (σ : dS), den mX7_rule 67 [l0, l1] [.ref q] σ = if disO σ q 6 = true then ((dcall mX7_guardedMany [.ref q] σ).bind fun r => den mX7_rule 70 [l0, l1] (r.1.toList ++ []) r.2) else none) ∧
  (∀ (l0 l1 : Option Value) (v : Int32) (σ : dS), den mX7_rule 70 [l0, l1] [.int v] σ = some (some (.int v), σ)) ∧
  (∀ (l1 : Option Value) (x : Nat) (st : List Value) (σ : dS), den mX7_rule 71 [some (.ref x), l1] st σ = den mX7_rule 72 [some (.ref x), l1] (.ref x :: st) σ) ∧
  (∀ (l0 l1 : Option Value) (q : Nat) (σ : dS), den mX7_rule 72 [l0, l1] [.ref q] σ = if disO σ q 6 = true then ((dcall mX7_flatOfAll [.ref q] σ).bind fun r => den mX7_rule 75 [l0, l1] (r.1.toList ++ []) r.2) else none) ∧
  (∀ (l0 l1 : Option Value) (v : Int32) (σ : dS), den mX7_rule 75 [l0, l1] [.int v] σ = some (some (.int v), σ)) ∧
  (∀ (l0 l1 : Option Value) (st : List Value) (σ : dS), den mX7_rule 76 [l0, l1] st σ = den mX7_rule 77 [l0, l1] (.int ((-1)) :: st) σ) ∧
  (∀ (l0 l1 : Option Value) (v : Int32) (σ : dS), den mX7_rule 77 [l0, l1] [.int v] σ = some (some (.int v), σ)) :=
  ⟨fun l0 x st σ => dn_iload_n eX7_rule dX7_rule_0 rfl,
  fun l0 l1 x st σ => rX7_rule_1 l0 l1 x st σ,
  fun l1 x st σ => dn_aload_n eX7_rule dX7_rule_40 rfl,
  fun l0 l1 q st σ => dn_getfield (f := (6, 0, 771)) eX7_rule dX7_rule_41 (by decide +kernel),
  fun l0 l1 st σ => dn_bipush eX7_rule dX7_rule_44 kc_bipush_120,
  fun l0 l1 q i st σ => dn_iaload eX7_rule dX7_rule_46,
  fun l0 l1 v σ => dn_ireturn eX7_rule dX7_rule_47 rfl,
  fun l1 x st σ => dn_aload_n eX7_rule dX7_rule_48 rfl,
  fun l0 l1 q σ => rX7_rule_49 l0 l1 q σ,
  fun l0 l1 v σ => dn_ireturn eX7_rule dX7_rule_52 rfl,
  fun l1 x st σ => dn_aload_n eX7_rule dX7_rule_53 rfl,
  fun l0 l1 q σ => rX7_rule_54 l0 l1 q σ,
  fun l0 l1 v σ => dn_ireturn eX7_rule dX7_rule_57 rfl,
  fun l1 x st σ => dn_aload_n eX7_rule dX7_rule_58 rfl,
  fun l0 l1 q st σ => dn_getfield (f := (6, 0, 771)) eX7_rule dX7_rule_59 (by decide +kernel),
  fun l0 l1 st σ => dn_bipush eX7_rule dX7_rule_62 kc_bipush_121,
  fun l0 l1 q i st σ => dn_iaload eX7_rule dX7_rule_64,
  fun l0 l1 v σ => dn_ireturn eX7_rule dX7_rule_65 rfl,
  fun l1 x st σ => dn_aload_n eX7_rule dX7_rule_66 rfl,
  fun l0 l1 q σ => rX7_rule_67 l0 l1 q σ,
  fun l0 l1 v σ => dn_ireturn eX7_rule dX7_rule_70 rfl,
  fun l1 x st σ => dn_aload_n eX7_rule dX7_rule_71 rfl,
  fun l0 l1 q σ => rX7_rule_72 l0 l1 q σ,
  fun l0 l1 v σ => dn_ireturn eX7_rule dX7_rule_75 rfl,
  fun l0 l1 st σ => dn_iconst eX7_rule dX7_rule_76 kc_iconst_m1,
  fun l0 l1 v σ => dn_ireturn eX7_rule dX7_rule_77 rfl⟩
theorem CX7_code (a0 : Nat) (a1 : Int32) (a2 : Int32) (σ : dS) : dcall mX7_code [.ref a0, .int a1, .int a2] σ = den mX7_code 0 [some (.ref a0), some (.int a1), some (.int a2), none] [] σ := dcall_den (by decide) rfl
theorem rX7_code_2 (l0 l1 l2 l3 : Option Value) (a0 : Int32) (q : Nat) (σ : dS) : den mX7_code 2 [l0, l1, l2, l3] [.int a0, .ref q] σ = if disO σ q 6 = true then ((dcall mX7_isCode [.ref q, .int a0] σ).bind fun r => den mX7_code 5 [l0, l1, l2, l3] (r.1.toList ++ []) r.2) else none := by
  by_cases h : disO σ q 6 = true
  · rw [if_pos h]; exact dn_callV (e := (0, 121, 1008)) (as := [.int a0]) (rest := []) eX7_code dX7_code_2 (by decide +kernel) rfl (by decide +kernel) rfl (dcat_le rfl) (dlen_le rfl) rfl h
  · rw [if_neg h]; exact den_noV (e := (0, 121, 1008)) (as := [.int a0]) (rest := []) eX7_code dX7_code_2 (by decide +kernel) rfl rfl rfl h
theorem rX7_code_13 (l0 l1 l2 l3 : Option Value) (a0 : Int32) (a1 : Int32) (q : Nat) (σ : dS) : den mX7_code 13 [l0, l1, l2, l3] [.int a1, .int a0, .ref q] σ = if disO σ q 6 = true then ((dcall mX7_of [.ref q, .int a0, .int a1] σ).bind fun r => den mX7_code 16 [l0, l1, l2, l3] (r.1.toList ++ []) r.2) else none := by
  by_cases h : disO σ q 6 = true
  · rw [if_pos h]; exact dn_callV (e := (0, 120, 947)) (as := [.int a0, .int a1]) (rest := []) eX7_code dX7_code_13 (by decide +kernel) rfl (by decide +kernel) rfl (dcat_le rfl) (dlen_le rfl) rfl h
  · rw [if_neg h]; exact den_noV (e := (0, 120, 947)) (as := [.int a0, .int a1]) (rest := []) eX7_code dX7_code_13 (by decide +kernel) rfl rfl rfl h
theorem rX7_code_22 (l0 l1 l2 l3 : Option Value) (a0 : Int32) (a1 : Int32) (q : Nat) (σ : dS) : den mX7_code 22 [l0, l1, l2, l3] [.int a1, .int a0, .ref q] σ = if disO σ q 6 = true then ((dcall mX7_of [.ref q, .int a0, .int a1] σ).bind fun r => den mX7_code 25 [l0, l1, l2, l3] (r.1.toList ++ []) r.2) else none := by
  by_cases h : disO σ q 6 = true
  · rw [if_pos h]; exact dn_callV (e := (0, 120, 947)) (as := [.int a0, .int a1]) (rest := []) eX7_code dX7_code_22 (by decide +kernel) rfl (by decide +kernel) rfl (dcat_le rfl) (dlen_le rfl) rfl h
  · rw [if_neg h]; exact den_noV (e := (0, 120, 947)) (as := [.int a0, .int a1]) (rest := []) eX7_code dX7_code_22 (by decide +kernel) rfl rfl rfl h
theorem rX7_code_36 (l0 l1 l2 l3 : Option Value) (x : Int32) (st : List Value) (σ : dS) : den mX7_code 36 [l0, l1, l2, l3] (.int x :: st) σ = if x = nI 0 then den mX7_code 80 [l0, l1, l2, l3] st σ else if x = nI 1 then den mX7_code 80 [l0, l1, l2, l3] st σ else if x = nI 2 then den mX7_code 80 [l0, l1, l2, l3] st σ else if x = nI 3 then den mX7_code 87 [l0, l1, l2, l3] st σ else if x = nI 4 then den mX7_code 80 [l0, l1, l2, l3] st σ else if x = nI 5 then den mX7_code 103 [l0, l1, l2, l3] st σ else if x = nI 6 then den mX7_code 109 [l0, l1, l2, l3] st σ else den mX7_code 130 [l0, l1, l2, l3] st σ := by
  by_cases h0 : x = nI 0
  · rw [if_pos h0, h0]; exact dn_swIn (off := 44) eX7_code dX7_code_36 (by decide +kernel) (by decide +kernel) (by decide)
  rw [if_neg h0]
  by_cases h1 : x = nI 1
  · rw [if_pos h1, h1]; exact dn_swIn (off := 44) eX7_code dX7_code_36 (by decide +kernel) (by decide +kernel) (by decide)
  rw [if_neg h1]
  by_cases h2 : x = nI 2
  · rw [if_pos h2, h2]; exact dn_swIn (off := 44) eX7_code dX7_code_36 (by decide +kernel) (by decide +kernel) (by decide)
  rw [if_neg h2]
  by_cases h3 : x = nI 3
  · rw [if_pos h3, h3]; exact dn_swIn (off := 51) eX7_code dX7_code_36 (by decide +kernel) (by decide +kernel) (by decide)
  rw [if_neg h3]
  by_cases h4 : x = nI 4
  · rw [if_pos h4, h4]; exact dn_swIn (off := 44) eX7_code dX7_code_36 (by decide +kernel) (by decide +kernel) (by decide)
  rw [if_neg h4]
  by_cases h5 : x = nI 5
  · rw [if_pos h5, h5]; exact dn_swIn (off := 67) eX7_code dX7_code_36 (by decide +kernel) (by decide +kernel) (by decide)
  rw [if_neg h5]
  by_cases h6 : x = nI 6
  · rw [if_pos h6, h6]; exact dn_swIn (off := 73) eX7_code dX7_code_36 (by decide +kernel) (by decide +kernel) (by decide)
  rw [if_neg h6]
  refine dn_swOut eX7_code dX7_code_36 (by decide) ?_
  have g : x.toInt ≠ 0 ∧ x.toInt ≠ 1 ∧ x.toInt ≠ 2 ∧ x.toInt ≠ 3 ∧ x.toInt ≠ 4 ∧ x.toInt ≠ 5 ∧ x.toInt ≠ 6 := ⟨sw_ne h0, sw_ne h1, sw_ne h2, sw_ne h3, sw_ne h4, sw_ne h5, sw_ne h6⟩
  omega
theorem rX7_code_83 (l0 l1 l2 l3 : Option Value) (a0 : Int32) (a1 : Int32) (q : Nat) (σ : dS) : den mX7_code 83 [l0, l1, l2, l3] [.int a1, .int a0, .ref q] σ = if disO σ q 6 = true then ((dcall mX7_of [.ref q, .int a0, .int a1] σ).bind fun r => den mX7_code 86 [l0, l1, l2, l3] (r.1.toList ++ []) r.2) else none := by
  by_cases h : disO σ q 6 = true
  · rw [if_pos h]; exact dn_callV (e := (0, 120, 947)) (as := [.int a0, .int a1]) (rest := []) eX7_code dX7_code_83 (by decide +kernel) rfl (by decide +kernel) rfl (dcat_le rfl) (dlen_le rfl) rfl h
  · rw [if_neg h]; exact den_noV (e := (0, 120, 947)) (as := [.int a0, .int a1]) (rest := []) eX7_code dX7_code_83 (by decide +kernel) rfl rfl rfl h
theorem rX7_code_99 (l0 l1 l2 l3 : Option Value) (a0 : Int32) (a1 : Int32) (q : Nat) (σ : dS) : den mX7_code 99 [l0, l1, l2, l3] [.int a1, .int a0, .ref q] σ = if disO σ q 6 = true then ((dcall mX7_of [.ref q, .int a0, .int a1] σ).bind fun r => den mX7_code 102 [l0, l1, l2, l3] (r.1.toList ++ []) r.2) else none := by
  by_cases h : disO σ q 6 = true
  · rw [if_pos h]; exact dn_callV (e := (0, 120, 947)) (as := [.int a0, .int a1]) (rest := []) eX7_code dX7_code_99 (by decide +kernel) rfl (by decide +kernel) rfl (dcat_le rfl) (dlen_le rfl) rfl h
  · rw [if_neg h]; exact den_noV (e := (0, 120, 947)) (as := [.int a0, .int a1]) (rest := []) eX7_code dX7_code_99 (by decide +kernel) rfl rfl rfl h
theorem rX7_code_105 (l0 l1 l2 l3 : Option Value) (a0 : Int32) (q : Nat) (σ : dS) : den mX7_code 105 [l0, l1, l2, l3] [.int a0, .ref q] σ = if disO σ q 6 = true then ((dcall mX7_flatOf [.ref q, .int a0] σ).bind fun r => den mX7_code 108 [l0, l1, l2, l3] (r.1.toList ++ []) r.2) else none := by
  by_cases h : disO σ q 6 = true
  · rw [if_pos h]; exact dn_callV (e := (0, 132, 992)) (as := [.int a0]) (rest := []) eX7_code dX7_code_105 (by decide +kernel) rfl (by decide +kernel) rfl (dcat_le rfl) (dlen_le rfl) rfl h
  · rw [if_neg h]; exact den_noV (e := (0, 132, 992)) (as := [.int a0]) (rest := []) eX7_code dX7_code_105 (by decide +kernel) rfl rfl rfl h
theorem rX7_code_112 (l0 l1 l2 l3 : Option Value) (a0 : Int32) (a1 : Int32) (q : Nat) (σ : dS) : den mX7_code 112 [l0, l1, l2, l3] [.int a1, .int a0, .ref q] σ = if disO σ q 6 = true then ((dcall mX7_of [.ref q, .int a0, .int a1] σ).bind fun r => den mX7_code 115 [l0, l1, l2, l3] (r.1.toList ++ []) r.2) else none := by
  by_cases h : disO σ q 6 = true
  · rw [if_pos h]; exact dn_callV (e := (0, 120, 947)) (as := [.int a0, .int a1]) (rest := []) eX7_code dX7_code_112 (by decide +kernel) rfl (by decide +kernel) rfl (dcat_le rfl) (dlen_le rfl) rfl h
  · rw [if_neg h]; exact den_noV (e := (0, 120, 947)) (as := [.int a0, .int a1]) (rest := []) eX7_code dX7_code_112 (by decide +kernel) rfl rfl rfl h
theorem rX7_code_121 (l0 l1 l2 l3 : Option Value) (a0 : Int32) (q : Nat) (σ : dS) : den mX7_code 121 [l0, l1, l2, l3] [.int a0, .ref q] σ = if disO σ q 6 = true then ((dcall mX7_ifOf [.ref q, .int a0] σ).bind fun r => den mX7_code 124 [l0, l1, l2, l3] (r.1.toList ++ []) r.2) else none := by
  by_cases h : disO σ q 6 = true
  · rw [if_pos h]; exact dn_callV (e := (0, 124, 983)) (as := [.int a0]) (rest := []) eX7_code dX7_code_121 (by decide +kernel) rfl (by decide +kernel) rfl (dcat_le rfl) (dlen_le rfl) rfl h
  · rw [if_neg h]; exact den_noV (e := (0, 124, 983)) (as := [.int a0]) (rest := []) eX7_code dX7_code_121 (by decide +kernel) rfl rfl rfl h
set_option maxRecDepth 20000 in
theorem SX7_code_0 : (∀ (l1 l2 l3 : Option Value) (x : Nat) (st : List Value) (σ : dS), den mX7_code 0 [some (.ref x), l1, l2, l3] st σ = den mX7_code 1 [some (.ref x), l1, l2, l3] (.ref x :: st) σ) ∧
  (∀ (l0 l2 l3 : Option Value) (x : Int32) (st : List Value) (σ : dS), den mX7_code 1 [l0, some (.int x), l2, l3] st σ = den mX7_code 2 [l0, some (.int x), l2, l3] (.int x :: st) σ) ∧
  (∀ (l0 l1 l2 l3 : Option Value) (a0 : Int32) (q : Nat) (σ : dS), den mX7_code 2 [l0, l1, l2, l3] [.int a0, .ref q] σ = if disO σ q 6 = true then ((dcall mX7_isCode [.ref q, .int a0] σ).bind fun r => den mX7_code 5 [l0, l1, l2, l3] (r.1.toList ++ []) r.2) else none) ∧
  (∀ (l0 l1 l2 l3 : Option Value) (x : Int32) (st : List Value) (σ : dS), den mX7_code 5 [l0, l1, l2, l3] (.int x :: st) σ = if x = 0 then den mX7_code 8 [l0, l1, l2, l3] st σ else den mX7_code 10 [l0, l1, l2, l3] st σ) ∧
  (∀ (l0 l1 l2 l3 : Option Value) (st : List Value) (σ : dS), den mX7_code 8 [l0, l1, l2, l3] st σ = den mX7_code 9 [l0, l1, l2, l3] (.int ((-1)) :: st) σ) ∧
  (∀ (l0 l1 l2 l3 : Option Value) (v : Int32) (σ : dS), den mX7_code 9 [l0, l1, l2, l3] [.int v] σ = some (some (.int v), σ)) ∧
  (∀ (l1 l2 l3 : Option Value) (x : Nat) (st : List Value) (σ : dS), den mX7_code 10 [some (.ref x), l1, l2, l3] st σ = den mX7_code 11 [some (.ref x), l1, l2, l3] (.ref x :: st) σ) ∧
  (∀ (l0 l2 l3 : Option Value) (x : Int32) (st : List Value) (σ : dS), den mX7_code 11 [l0, some (.int x), l2, l3] st σ = den mX7_code 12 [l0, some (.int x), l2, l3] (.int x :: st) σ) ∧
  (∀ (l0 l1 l2 l3 : Option Value) (st : List Value) (σ : dS), den mX7_code 12 [l0, l1, l2, l3] st σ = den mX7_code 13 [l0, l1, l2, l3] (.int (nI 0) :: st) σ) ∧
  (∀ (l0 l1 l2 l3 : Option Value) (a0 : Int32) (a1 : Int32) (q : Nat) (σ : dS), den mX7_code 13 [l0, l1, l2, l3] [.int a1, .int a0, .ref q] σ = if disO σ q 6 = true then ((dcall mX7_of [.ref q, .int a0, .int a1] σ).bind fun r => den mX7_code 16 [l0, l1, l2, l3] (r.1.toList ++ []) r.2) else none) ∧
  (∀ (l0 l1 l2 l3 : Option Value) (x : Int32) (st : List Value) (σ : dS), den mX7_code 16 [l0, l1, l2, l3] (.int x :: st) σ = if x = 0 then den mX7_code 29 [l0, l1, l2, l3] st σ else den mX7_code 19 [l0, l1, l2, l3] st σ) ∧
  (∀ (l1 l2 l3 : Option Value) (x : Nat) (st : List Value) (σ : dS), den mX7_code 19 [some (.ref x), l1, l2, l3] st σ = den mX7_code 20 [some (.ref x), l1, l2, l3] (.ref x :: st) σ) ∧
  (∀ (l0 l2 l3 : Option Value) (x : Int32) (st : List Value) (σ : dS), den mX7_code 20 [l0, some (.int x), l2, l3] st σ = den mX7_code 21 [l0, some (.int x), l2, l3] (.int x :: st) σ) ∧
  (∀ (l0 l1 l2 l3 : Option Value) (st : List Value) (σ : dS), den mX7_code 21 [l0, l1, l2, l3] st σ = den mX7_code 22 [l0, l1, l2, l3] (.int (nI 0) :: st) σ) ∧
  (∀ (l0 l1 l2 l3 : Option Value) (a0 : Int32) (a1 : Int32) (q : Nat) (σ : dS), den mX7_code 22 [l0, l1, l2, l3] [.int a1, .int a0, .ref q] σ = if disO σ q 6 = true then ((dcall mX7_of [.ref q, .int a0, .int a1] σ).bind fun r => den mX7_code 25 [l0, l1, l2, l3] (r.1.toList ++ []) r.2) else none) ∧
  (∀ (l0 l1 l2 l3 : Option Value) (st : List Value) (σ : dS), den mX7_code 25 [l0, l1, l2, l3] st σ = den mX7_code 26 [l0, l1, l2, l3] (.int (nI 5) :: st) σ) ∧
  (∀ (l0 l1 l2 l3 : Option Value) (x y : Int32) (st : List Value) (σ : dS), den mX7_code 26 [l0, l1, l2, l3] (.int y :: .int x :: st) σ = if x = y then den mX7_code 29 [l0, l1, l2, l3] st σ else den mX7_code 33 [l0, l1, l2, l3] st σ) ∧
  (∀ (l0 l1 l2 l3 : Option Value) (st : List Value) (σ : dS), den mX7_code 29 [l0, l1, l2, l3] st σ = den mX7_code 30 [l0, l1, l2, l3] (.int (nI 1) :: st) σ) ∧
  (∀ (l0 l1 l2 l3 : Option Value) (st : List Value) (σ : dS), den mX7_code 30 [l0, l1, l2, l3] st σ = den mX7_code 34 [l0, l1, l2, l3] st σ) ∧
  (∀ (l0 l1 l2 l3 : Option Value) (st : List Value) (σ : dS), den mX7_code 33 [l0, l1, l2, l3] st σ = den mX7_code 34 [l0, l1, l2, l3] (.int (nI 0) :: st) σ) ∧
  (∀ (l0 l1 l3 : Option Value) (x : Int32) (y : Int32) (st : List Value) (σ : dS), den mX7_code 34 [l0, l1, some (.int y), l3] (.int x :: st) σ = den mX7_code 35 [l0, l1, some (.int y), some (.int x)] st σ) ∧
  (∀ (l0 l1 l3 : Option Value) (x : Int32) (st : List Value) (σ : dS), den mX7_code 35 [l0, l1, some (.int x), l3] st σ = den mX7_code 36 [l0, l1, some (.int x), l3] (.int x :: st) σ) ∧
  (∀ (l0 l1 l2 l3 : Option Value) (x : Int32) (st : List Value) (σ : dS), den mX7_code 36 [l0, l1, l2, l3] (.int x :: st) σ = if x = nI 0 then den mX7_code 80 [l0, l1, l2, l3] st σ else if x = nI 1 then den mX7_code 80 [l0, l1, l2, l3] st σ else if x = nI 2 then den mX7_code 80 [l0, l1, l2, l3] st σ else if x = nI 3 then den mX7_code 87 [l0, l1, l2, l3] st σ else if x = nI 4 then den mX7_code 80 [l0, l1, l2, l3] st σ else if x = nI 5 then den mX7_code 103 [l0, l1, l2, l3] st σ else if x = nI 6 then den mX7_code 109 [l0, l1, l2, l3] st σ else den mX7_code 130 [l0, l1, l2, l3] st σ) ∧
  (∀ (l1 l2 l3 : Option Value) (x : Nat) (st : List Value) (σ : dS), den mX7_code 80 [some (.ref x), l1, l2, l3] st σ = den mX7_code 81 [some (.ref x), l1, l2, l3] (.ref x :: st) σ) ∧
  (∀ (l0 l2 l3 : Option Value) (x : Int32) (st : List Value) (σ : dS), den mX7_code 81 [l0, some (.int x), l2, l3] st σ = den mX7_code 82 [l0, some (.int x), l2, l3] (.int x :: st) σ) ∧
  (∀ (l0 l1 l3 : Option Value) (x : Int32) (st : List Value) (σ : dS), den mX7_code 82 [l0, l1, some (.int x), l3] st σ = den mX7_code 83 [l0, l1, some (.int x), l3] (.int x :: st) σ) ∧
  (∀ (l0 l1 l2 l3 : Option Value) (a0 : Int32) (a1 : Int32) (q : Nat) (σ : dS), den mX7_code 83 [l0, l1, l2, l3] [.int a1, .int a0, .ref q] σ = if disO σ q 6 = true then ((dcall mX7_of [.ref q, .int a0, .int a1] σ).bind fun r => den mX7_code 86 [l0, l1, l2, l3] (r.1.toList ++ []) r.2) else none) ∧
  (∀ (l0 l1 l2 l3 : Option Value) (v : Int32) (σ : dS), den mX7_code 86 [l0, l1, l2, l3] [.int v] σ = some (some (.int v), σ)) ∧
  (∀ (l0 l1 l2 : Option Value) (x : Int32) (st : List Value) (σ : dS), den mX7_code 87 [l0, l1, l2, some (.int x)] st σ = den mX7_code 88 [l0, l1, l2, some (.int x)] (.int x :: st) σ) ∧
  (∀ (l0 l1 l2 l3 : Option Value) (x : Int32) (st : List Value) (σ : dS), den mX7_code 88 [l0, l1, l2, l3] (.int x :: st) σ = if x = 0 then den mX7_code 96 [l0, l1, l2, l3] st σ else den mX7_code 91 [l0, l1, l2, l3] st σ) ∧
  (∀ (l0 l1 l2 l3 : Option Value) (st : List Value) (σ : dS), den mX7_code 91 [l0, l1, l2, l3] st σ = den mX7_code 93 [l0, l1, l2, l3] (.int ((-4)) :: st) σ) ∧
  (∀ (l0 l1 l2 l3 : Option Value) (st : List Value) (σ : dS), den mX7_code 93 [l0, l1, l2, l3] st σ = den mX7_code 102 [l0, l1, l2, l3] st σ) ∧
  (∀ (l1 l2 l3 : Option Value) (x : Nat) (st : List Value) (σ : dS), den mX7_code 96 [some (.ref x), l1, l2, l3] st σ = den mX7_code 97 [some (.ref x), l1, l2, l3] (.ref x :: st) σ) ∧
  (∀ (l0 l2 l3 : Option Value) (x : Int32) (st : List Value) (σ : dS), den mX7_code 97 [l0, some (.int x), l2, l3] st σ = den mX7_code 98 [l0, some (.int x), l2, l3] (.int x :: st) σ) ∧
  (∀ (l0 l1 l2 l3 : Option Value) (st : List Value) (σ : dS), den mX7_code 98 [l0, l1, l2, l3] st σ = den mX7_code 99 [l0, l1, l2, l3] (.int (nI 3) :: st) σ) ∧
  (∀ (l0 l1 l2 l3 : Option Value) (a0 : Int32) (a1 : Int32) (q : Nat) (σ : dS), den mX7_code 99 [l0, l1, l2, l3] [.int a1, .int a0, .ref q] σ = if disO σ q 6 = true then ((dcall mX7_of [.ref q, .int a0, .int a1] σ).bind fun r => den mX7_code 102 [l0, l1, l2, l3] (r.1.toList ++ []) r.2) else none) ∧
  (∀ (l0 l1 l2 l3 : Option Value) (v : Int32) (σ : dS), den mX7_code 102 [l0, l1, l2, l3] [.int v] σ = some (some (.int v), σ)) ∧
  (∀ (l1 l2 l3 : Option Value) (x : Nat) (st : List Value) (σ : dS), den mX7_code 103 [some (.ref x), l1, l2, l3] st σ = den mX7_code 104 [some (.ref x), l1, l2, l3] (.ref x :: st) σ) ∧
  (∀ (l0 l2 l3 : Option Value) (x : Int32) (st : List Value) (σ : dS), den mX7_code 104 [l0, some (.int x), l2, l3] st σ = den mX7_code 105 [l0, some (.int x), l2, l3] (.int x :: st) σ) ∧
  (∀ (l0 l1 l2 l3 : Option Value) (a0 : Int32) (q : Nat) (σ : dS), den mX7_code 105 [l0, l1, l2, l3] [.int a0, .ref q] σ = if disO σ q 6 = true then ((dcall mX7_flatOf [.ref q, .int a0] σ).bind fun r => den mX7_code 108 [l0, l1, l2, l3] (r.1.toList ++ []) r.2) else none) :=
  ⟨fun l1 l2 l3 x st σ => dn_aload_n eX7_code dX7_code_0 rfl,
  fun l0 l2 l3 x st σ => dn_iload_n eX7_code dX7_code_1 rfl,
  fun l0 l1 l2 l3 a0 q σ => rX7_code_2 l0 l1 l2 l3 a0 q σ,
  fun l0 l1 l2 l3 x st σ => dn_if_ne eX7_code dX7_code_5 (by decide),
  fun l0 l1 l2 l3 st σ => dn_iconst eX7_code dX7_code_8 kc_iconst_m1,
  fun l0 l1 l2 l3 v σ => dn_ireturn eX7_code dX7_code_9 rfl,
  fun l1 l2 l3 x st σ => dn_aload_n eX7_code dX7_code_10 rfl,
  fun l0 l2 l3 x st σ => dn_iload_n eX7_code dX7_code_11 rfl,
  fun l0 l1 l2 l3 st σ => dn_iconst eX7_code dX7_code_12 kc_iconst_0,
  fun l0 l1 l2 l3 a0 a1 q σ => rX7_code_13 l0 l1 l2 l3 a0 a1 q σ,
  fun l0 l1 l2 l3 x st σ => dn_if_eq eX7_code dX7_code_16 (by decide),
  fun l1 l2 l3 x st σ => dn_aload_n eX7_code dX7_code_19 rfl,
  fun l0 l2 l3 x st σ => dn_iload_n eX7_code dX7_code_20 rfl,
  fun l0 l1 l2 l3 st σ => dn_iconst eX7_code dX7_code_21 kc_iconst_0,
  fun l0 l1 l2 l3 a0 a1 q σ => rX7_code_22 l0 l1 l2 l3 a0 a1 q σ,
  fun l0 l1 l2 l3 st σ => dn_iconst eX7_code dX7_code_25 kc_iconst_5,
  fun l0 l1 l2 l3 x y st σ => dn_icmp_ne eX7_code dX7_code_26 (by decide),
  fun l0 l1 l2 l3 st σ => dn_iconst eX7_code dX7_code_29 kc_iconst_1,
  fun l0 l1 l2 l3 st σ => dn_goto eX7_code dX7_code_30 (by decide),
  fun l0 l1 l2 l3 st σ => dn_iconst eX7_code dX7_code_33 kc_iconst_0,
  fun l0 l1 l3 x y st σ => dn_istore_n eX7_code dX7_code_34 rfl,
  fun l0 l1 l3 x st σ => dn_iload_n eX7_code dX7_code_35 rfl,
  fun l0 l1 l2 l3 x st σ => rX7_code_36 l0 l1 l2 l3 x st σ,
  fun l1 l2 l3 x st σ => dn_aload_n eX7_code dX7_code_80 rfl,
  fun l0 l2 l3 x st σ => dn_iload_n eX7_code dX7_code_81 rfl,
  fun l0 l1 l3 x st σ => dn_iload_n eX7_code dX7_code_82 rfl,
  fun l0 l1 l2 l3 a0 a1 q σ => rX7_code_83 l0 l1 l2 l3 a0 a1 q σ,
  fun l0 l1 l2 l3 v σ => dn_ireturn eX7_code dX7_code_86 rfl,
  fun l0 l1 l2 x st σ => dn_iload_n eX7_code dX7_code_87 rfl,
  fun l0 l1 l2 l3 x st σ => dn_if_eq eX7_code dX7_code_88 (by decide),
  fun l0 l1 l2 l3 st σ => dn_bipush eX7_code dX7_code_91 kc_bipush_m4,
  fun l0 l1 l2 l3 st σ => dn_goto eX7_code dX7_code_93 (by decide),
  fun l1 l2 l3 x st σ => dn_aload_n eX7_code dX7_code_96 rfl,
  fun l0 l2 l3 x st σ => dn_iload_n eX7_code dX7_code_97 rfl,
  fun l0 l1 l2 l3 st σ => dn_iconst eX7_code dX7_code_98 kc_iconst_3,
  fun l0 l1 l2 l3 a0 a1 q σ => rX7_code_99 l0 l1 l2 l3 a0 a1 q σ,
  fun l0 l1 l2 l3 v σ => dn_ireturn eX7_code dX7_code_102 rfl,
  fun l1 l2 l3 x st σ => dn_aload_n eX7_code dX7_code_103 rfl,
  fun l0 l2 l3 x st σ => dn_iload_n eX7_code dX7_code_104 rfl,
  fun l0 l1 l2 l3 a0 q σ => rX7_code_105 l0 l1 l2 l3 a0 q σ⟩
set_option maxRecDepth 20000 in
theorem SX7_code_1 : (∀ (l0 l1 l2 l3 : Option Value) (v : Int32) (σ : dS), den mX7_code 108 [l0, l1, l2, l3] [.int v] σ = some (some (.int v), σ)) ∧
  (∀ (l1 l2 l3 : Option Value) (x : Nat) (st : List Value) (σ : dS), den mX7_code 109 [some (.ref x), l1, l2, l3] st σ = den mX7_code 110 [some (.ref x), l1, l2, l3] (.ref x :: st) σ) ∧
  (∀ (l0 l2 l3 : Option Value) (x : Int32) (st : List Value) (σ : dS), den mX7_code 110 [l0, some (.int x), l2, l3] st σ = den mX7_code 111 [l0, some (.int x), l2, l3] (.int x :: st) σ) ∧
  (∀ (l0 l1 l2 l3 : Option Value) (st : List Value) (σ : dS), den mX7_code 111 [l0, l1, l2, l3] st σ = den mX7_code 112 [l0, l1, l2, l3] (.int (nI 0) :: st) σ) ∧
  (∀ (l0 l1 l2 l3 : Option Value) (a0 : Int32) (a1 : Int32) (q : Nat) (σ : dS), den mX7_code 112 [l0, l1, l2, l3] [.int a1, .int a0, .ref q] σ = if disO σ q 6 = true then ((dcall mX7_of [.ref q, .int a0, .int a1] σ).bind fun r => den mX7_code 115 [l0, l1, l2, l3] (r.1.toList ++ []) r.2) else none) ∧
  (∀ (l0 l1 l2 l3 : Option Value) (st : List Value) (σ : dS), den mX7_code 115 [l0, l1, l2, l3] st σ = den mX7_code 116 [l0, l1, l2, l3] (.int (nI 5) :: st) σ) ∧
  (∀ (l0 l1 l2 l3 : Option Value) (x y : Int32) (st : List Value) (σ : dS), den mX7_code 116 [l0, l1, l2, l3] (.int y :: .int x :: st) σ = if x = y then den mX7_code 119 [l0, l1, l2, l3] st σ else den mX7_code 127 [l0, l1, l2, l3] st σ) ∧
  (∀ (l1 l2 l3 : Option Value) (x : Nat) (st : List Value) (σ : dS), den mX7_code 119 [some (.ref x), l1, l2, l3] st σ = den mX7_code 120 [some (.ref x), l1, l2, l3] (.ref x :: st) σ) ∧
  (∀ (l0 l2 l3 : Option Value) (x : Int32) (st : List Value) (σ : dS), den mX7_code 120 [l0, some (.int x), l2, l3] st σ = den mX7_code 121 [l0, some (.int x), l2, l3] (.int x :: st) σ) ∧
  (∀ (l0 l1 l2 l3 : Option Value) (a0 : Int32) (q : Nat) (σ : dS), den mX7_code 121 [l0, l1, l2, l3] [.int a0, .ref q] σ = if disO σ q 6 = true then ((dcall mX7_ifOf [.ref q, .int a0] σ).bind fun r => den mX7_code 124 [l0, l1, l2, l3] (r.1.toList ++ []) r.2) else none) ∧
  (∀ (l0 l1 l2 l3 : Option Value) (st : List Value) (σ : dS), den mX7_code 124 [l0, l1, l2, l3] st σ = den mX7_code 129 [l0, l1, l2, l3] st σ) ∧
  (∀ (l0 l1 l2 l3 : Option Value) (st : List Value) (σ : dS), den mX7_code 127 [l0, l1, l2, l3] st σ = den mX7_code 129 [l0, l1, l2, l3] (.int ((-4)) :: st) σ) ∧
  (∀ (l0 l1 l2 l3 : Option Value) (v : Int32) (σ : dS), den mX7_code 129 [l0, l1, l2, l3] [.int v] σ = some (some (.int v), σ)) ∧
  (∀ (l0 l1 l2 l3 : Option Value) (st : List Value) (σ : dS), den mX7_code 130 [l0, l1, l2, l3] st σ = den mX7_code 131 [l0, l1, l2, l3] (.int ((-1)) :: st) σ) ∧
  (∀ (l0 l1 l2 l3 : Option Value) (v : Int32) (σ : dS), den mX7_code 131 [l0, l1, l2, l3] [.int v] σ = some (some (.int v), σ)) :=
  ⟨fun l0 l1 l2 l3 v σ => dn_ireturn eX7_code dX7_code_108 rfl,
  fun l1 l2 l3 x st σ => dn_aload_n eX7_code dX7_code_109 rfl,
  fun l0 l2 l3 x st σ => dn_iload_n eX7_code dX7_code_110 rfl,
  fun l0 l1 l2 l3 st σ => dn_iconst eX7_code dX7_code_111 kc_iconst_0,
  fun l0 l1 l2 l3 a0 a1 q σ => rX7_code_112 l0 l1 l2 l3 a0 a1 q σ,
  fun l0 l1 l2 l3 st σ => dn_iconst eX7_code dX7_code_115 kc_iconst_5,
  fun l0 l1 l2 l3 x y st σ => dn_icmp_ne eX7_code dX7_code_116 (by decide),
  fun l1 l2 l3 x st σ => dn_aload_n eX7_code dX7_code_119 rfl,
  fun l0 l2 l3 x st σ => dn_iload_n eX7_code dX7_code_120 rfl,
  fun l0 l1 l2 l3 a0 q σ => rX7_code_121 l0 l1 l2 l3 a0 q σ,
  fun l0 l1 l2 l3 st σ => dn_goto eX7_code dX7_code_124 (by decide),
  fun l0 l1 l2 l3 st σ => dn_bipush eX7_code dX7_code_127 kc_bipush_m4,
  fun l0 l1 l2 l3 v σ => dn_ireturn eX7_code dX7_code_129 rfl,
  fun l0 l1 l2 l3 st σ => dn_iconst eX7_code dX7_code_130 kc_iconst_m1,
  fun l0 l1 l2 l3 v σ => dn_ireturn eX7_code dX7_code_131 rfl⟩
theorem CX7_standUnder (a0 : Nat) (a1 : Int32) (σ : dS) : dcall mX7_standUnder [.ref a0, .int a1] σ = den mX7_standUnder 0 [some (.ref a0), some (.int a1), none, none] [] σ := dcall_den (by decide) rfl
theorem hX7_standUnder_4 (l0 l1 l2 : Option Value) (x : Int32) (st : List Value) (σ : dS) : den mX7_standUnder 4 [l0, l1, l2, some (.int x)] st σ = den mX7_standUnder 5 [l0, l1, l2, some (.int x)] (.int x :: st) σ := dn_iload_n eX7_standUnder dX7_standUnder_4 rfl
theorem rX7_standUnder_19 (l0 l1 l2 l3 : Option Value) (a0 : Int32) (a1 : Int32) (b0 : Int32) (q : Nat) (σ : dS) : den mX7_standUnder 19 [l0, l1, l2, l3] [.int a1, .int a0, .ref q, .int b0] σ = if disO σ q 6 = true then ((dcall mX7_of [.ref q, .int a0, .int a1] σ).bind fun r => den mX7_standUnder 22 [l0, l1, l2, l3] (r.1.toList ++ [.int b0]) r.2) else none := by
  by_cases h : disO σ q 6 = true
  · rw [if_pos h]; exact dn_callV (e := (0, 120, 947)) (as := [.int a0, .int a1]) (rest := [.int b0]) eX7_standUnder dX7_standUnder_19 (by decide +kernel) rfl (by decide +kernel) rfl (dcat_le rfl) (dlen_le rfl) rfl h
  · rw [if_neg h]; exact den_noV (e := (0, 120, 947)) (as := [.int a0, .int a1]) (rest := [.int b0]) eX7_standUnder dX7_standUnder_19 (by decide +kernel) rfl rfl rfl h
set_option maxRecDepth 20000 in
theorem SX7_standUnder : (∀ (l0 l1 l2 l3 : Option Value) (st : List Value) (σ : dS), den mX7_standUnder 0 [l0, l1, l2, l3] st σ = den mX7_standUnder 1 [l0, l1, l2, l3] (.int (nI 0) :: st) σ) ∧
  (∀ (l0 l2 l3 : Option Value) (x : Int32) (y : Int32) (st : List Value) (σ : dS), den mX7_standUnder 1 [l0, some (.int y), l2, l3] (.int x :: st) σ = den mX7_standUnder 2 [l0, some (.int y), some (.int x), l3] st σ) ∧
  (∀ (l0 l1 l2 l3 : Option Value) (st : List Value) (σ : dS), den mX7_standUnder 2 [l0, l1, l2, l3] st σ = den mX7_standUnder 3 [l0, l1, l2, l3] (.int (nI 0) :: st) σ) ∧
  (∀ (l0 l1 l3 : Option Value) (x : Int32) (y : Int32) (st : List Value) (σ : dS), den mX7_standUnder 3 [l0, l1, some (.int y), l3] (.int x :: st) σ = den mX7_standUnder 4 [l0, l1, some (.int y), some (.int x)] st σ) ∧
  (∀ (l1 l2 l3 : Option Value) (x : Nat) (st : List Value) (σ : dS), den mX7_standUnder 5 [some (.ref x), l1, l2, l3] st σ = den mX7_standUnder 6 [some (.ref x), l1, l2, l3] (.ref x :: st) σ) ∧
  (∀ (l0 l1 l2 l3 : Option Value) (q : Nat) (st : List Value) (σ : dS), den mX7_standUnder 6 [l0, l1, l2, l3] (.ref q :: st) σ = (dget σ q 6 0).bind fun v => den mX7_standUnder 9 [l0, l1, l2, l3] (v :: st) σ) ∧
  (∀ (l0 l1 l2 l3 : Option Value) (st : List Value) (σ : dS), den mX7_standUnder 9 [l0, l1, l2, l3] st σ = den mX7_standUnder 11 [l0, l1, l2, l3] (.int (nI 120) :: st) σ) ∧
  (∀ (l0 l1 l2 l3 : Option Value) (q : Nat) (i : Int32) (st : List Value) (σ : dS), den mX7_standUnder 11 [l0, l1, l2, l3] (.int i :: .ref q :: st) σ = if q ≤ dN then (dald σ q 0 i).bind (fun v => den mX7_standUnder 12 [l0, l1, l2, l3] (.int v :: st) σ) else none) ∧
  (∀ (l0 l1 l2 l3 : Option Value) (x y : Int32) (st : List Value) (σ : dS), den mX7_standUnder 12 [l0, l1, l2, l3] (.int y :: .int x :: st) σ = if x < y then den mX7_standUnder 15 [l0, l1, l2, l3] st σ else den mX7_standUnder 42 [l0, l1, l2, l3] st σ) ∧
  (∀ (l0 l1 l3 : Option Value) (x : Int32) (st : List Value) (σ : dS), den mX7_standUnder 15 [l0, l1, some (.int x), l3] st σ = den mX7_standUnder 16 [l0, l1, some (.int x), l3] (.int x :: st) σ) ∧
  (∀ (l1 l2 l3 : Option Value) (x : Nat) (st : List Value) (σ : dS), den mX7_standUnder 16 [some (.ref x), l1, l2, l3] st σ = den mX7_standUnder 17 [some (.ref x), l1, l2, l3] (.ref x :: st) σ) ∧
  (∀ (l0 l1 l2 : Option Value) (x : Int32) (st : List Value) (σ : dS), den mX7_standUnder 17 [l0, l1, l2, some (.int x)] st σ = den mX7_standUnder 18 [l0, l1, l2, some (.int x)] (.int x :: st) σ) ∧
  (∀ (l0 l1 l2 l3 : Option Value) (st : List Value) (σ : dS), den mX7_standUnder 18 [l0, l1, l2, l3] st σ = den mX7_standUnder 19 [l0, l1, l2, l3] (.int (nI 4) :: st) σ) ∧
  (∀ (l0 l1 l2 l3 : Option Value) (a0 : Int32) (a1 : Int32) (b0 : Int32) (q : Nat) (σ : dS), den mX7_standUnder 19 [l0, l1, l2, l3] [.int a1, .int a0, .ref q, .int b0] σ = if disO σ q 6 = true then ((dcall mX7_of [.ref q, .int a0, .int a1] σ).bind fun r => den mX7_standUnder 22 [l0, l1, l2, l3] (r.1.toList ++ [.int b0]) r.2) else none) ∧
  (∀ (l0 l2 l3 : Option Value) (x : Int32) (st : List Value) (σ : dS), den mX7_standUnder 22 [l0, some (.int x), l2, l3] st σ = den mX7_standUnder 23 [l0, some (.int x), l2, l3] (.int x :: st) σ) ∧
  (∀ (l0 l1 l2 l3 : Option Value) (x y : Int32) (st : List Value) (σ : dS), den mX7_standUnder 23 [l0, l1, l2, l3] (.int y :: .int x :: st) σ = if x = y then den mX7_standUnder 26 [l0, l1, l2, l3] st σ else den mX7_standUnder 30 [l0, l1, l2, l3] st σ) ∧
  (∀ (l0 l1 l2 l3 : Option Value) (st : List Value) (σ : dS), den mX7_standUnder 26 [l0, l1, l2, l3] st σ = den mX7_standUnder 27 [l0, l1, l2, l3] (.int (nI 1) :: st) σ) ∧
  (∀ (l0 l1 l2 l3 : Option Value) (st : List Value) (σ : dS), den mX7_standUnder 27 [l0, l1, l2, l3] st σ = den mX7_standUnder 31 [l0, l1, l2, l3] st σ) ∧
  (∀ (l0 l1 l2 l3 : Option Value) (st : List Value) (σ : dS), den mX7_standUnder 30 [l0, l1, l2, l3] st σ = den mX7_standUnder 31 [l0, l1, l2, l3] (.int (nI 0) :: st) σ) ∧
  (∀ (l0 l1 l2 l3 : Option Value) (a0 : Int32) (b0 : Int32) (σ : dS), den mX7_standUnder 31 [l0, l1, l2, l3] [.int a0, .int b0] σ = (dcall mX7_flag [.int a0] σ).bind fun r => den mX7_standUnder 34 [l0, l1, l2, l3] (r.1.toList ++ [.int b0]) r.2) ∧
  (∀ (l0 l1 l2 l3 : Option Value) (x y : Int32) (st : List Value) (σ : dS), den mX7_standUnder 34 [l0, l1, l2, l3] (.int y :: .int x :: st) σ = den mX7_standUnder 35 [l0, l1, l2, l3] (.int (x + y) :: st) σ) ∧
  (∀ (l0 l2 l3 : Option Value) (x : Int32) (y : Int32) (st : List Value) (σ : dS), den mX7_standUnder 35 [l0, some (.int y), l2, l3] (.int x :: st) σ = den mX7_standUnder 36 [l0, some (.int y), some (.int x), l3] st σ) ∧
  (∀ (l0 l1 : Option Value) (x : Int32) (y : Int32) (st : List Value) (σ : dS), den mX7_standUnder 36 [l0, l1, some (.int y), some (.int x)] st σ = den mX7_standUnder 39 [l0, l1, some (.int y), some (.int (x + nI 1))] st σ) ∧
  (∀ (l0 l1 l2 l3 : Option Value) (st : List Value) (σ : dS), den mX7_standUnder 39 [l0, l1, l2, l3] st σ = den mX7_standUnder 4 [l0, l1, l2, l3] st σ) ∧
  (∀ (l0 l1 l3 : Option Value) (x : Int32) (st : List Value) (σ : dS), den mX7_standUnder 42 [l0, l1, some (.int x), l3] st σ = den mX7_standUnder 43 [l0, l1, some (.int x), l3] (.int x :: st) σ) ∧
  (∀ (l0 l1 l2 l3 : Option Value) (v : Int32) (σ : dS), den mX7_standUnder 43 [l0, l1, l2, l3] [.int v] σ = some (some (.int v), σ)) :=
  ⟨fun l0 l1 l2 l3 st σ => dn_iconst eX7_standUnder dX7_standUnder_0 kc_iconst_0,
  fun l0 l2 l3 x y st σ => dn_istore_n eX7_standUnder dX7_standUnder_1 rfl,
  fun l0 l1 l2 l3 st σ => dn_iconst eX7_standUnder dX7_standUnder_2 kc_iconst_0,
  fun l0 l1 l3 x y st σ => dn_istore_n eX7_standUnder dX7_standUnder_3 rfl,
  fun l1 l2 l3 x st σ => dn_aload_n eX7_standUnder dX7_standUnder_5 rfl,
  fun l0 l1 l2 l3 q st σ => dn_getfield (f := (6, 0, 771)) eX7_standUnder dX7_standUnder_6 (by decide +kernel),
  fun l0 l1 l2 l3 st σ => dn_bipush eX7_standUnder dX7_standUnder_9 kc_bipush_120,
  fun l0 l1 l2 l3 q i st σ => dn_iaload eX7_standUnder dX7_standUnder_11,
  fun l0 l1 l2 l3 x y st σ => dn_icmp_ge eX7_standUnder dX7_standUnder_12 (by decide),
  fun l0 l1 l3 x st σ => dn_iload_n eX7_standUnder dX7_standUnder_15 rfl,
  fun l1 l2 l3 x st σ => dn_aload_n eX7_standUnder dX7_standUnder_16 rfl,
  fun l0 l1 l2 x st σ => dn_iload_n eX7_standUnder dX7_standUnder_17 rfl,
  fun l0 l1 l2 l3 st σ => dn_iconst eX7_standUnder dX7_standUnder_18 kc_iconst_4,
  fun l0 l1 l2 l3 a0 a1 b0 q σ => rX7_standUnder_19 l0 l1 l2 l3 a0 a1 b0 q σ,
  fun l0 l2 l3 x st σ => dn_iload_n eX7_standUnder dX7_standUnder_22 rfl,
  fun l0 l1 l2 l3 x y st σ => dn_icmp_ne eX7_standUnder dX7_standUnder_23 (by decide),
  fun l0 l1 l2 l3 st σ => dn_iconst eX7_standUnder dX7_standUnder_26 kc_iconst_1,
  fun l0 l1 l2 l3 st σ => dn_goto eX7_standUnder dX7_standUnder_27 (by decide),
  fun l0 l1 l2 l3 st σ => dn_iconst eX7_standUnder dX7_standUnder_30 kc_iconst_0,
  fun l0 l1 l2 l3 a0 b0 σ => dn_callS (e := (1, 103, 951)) (as := [.int a0]) (rest := [.int b0]) eX7_standUnder dX7_standUnder_31 (by decide +kernel) (Or.inl rfl) (by decide +kernel) rfl (dcat_le rfl) (dlen_le rfl) rfl,
  fun l0 l1 l2 l3 x y st σ => dn_iadd eX7_standUnder dX7_standUnder_34,
  fun l0 l2 l3 x y st σ => dn_istore_n eX7_standUnder dX7_standUnder_35 rfl,
  fun l0 l1 x y st σ => dn_iinc (v := nI 1) eX7_standUnder dX7_standUnder_36 rfl kc_iconst_1 rfl,
  fun l0 l1 l2 l3 st σ => dn_goto eX7_standUnder dX7_standUnder_39 (by decide),
  fun l0 l1 l3 x st σ => dn_iload_n eX7_standUnder dX7_standUnder_42 rfl,
  fun l0 l1 l2 l3 v σ => dn_ireturn eX7_standUnder dX7_standUnder_43 rfl⟩
theorem CX7_guard (a0 : Nat) (a1 : Int32) (a2 : Int32) (σ : dS) : dcall mX7_guard [.ref a0, .int a1, .int a2] σ = den mX7_guard 0 [some (.ref a0), some (.int a1), some (.int a2)] [] σ := dcall_den (by decide) rfl
theorem rX7_guard_2 (l0 l1 l2 : Option Value) (a0 : Int32) (q : Nat) (σ : dS) : den mX7_guard 2 [l0, l1, l2] [.int a0, .ref q] σ = if disO σ q 6 = true then ((dcall mX7_isGuard [.ref q, .int a0] σ).bind fun r => den mX7_guard 5 [l0, l1, l2] (r.1.toList ++ []) r.2) else none := by
  by_cases h : disO σ q 6 = true
  · rw [if_pos h]; exact dn_callV (e := (0, 126, 1016)) (as := [.int a0]) (rest := []) eX7_guard dX7_guard_2 (by decide +kernel) rfl (by decide +kernel) rfl (dcat_le rfl) (dlen_le rfl) rfl h
  · rw [if_neg h]; exact den_noV (e := (0, 126, 1016)) (as := [.int a0]) (rest := []) eX7_guard dX7_guard_2 (by decide +kernel) rfl rfl rfl h
theorem rX7_guard_11 (l0 l1 l2 : Option Value) (x : Int32) (st : List Value) (σ : dS) : den mX7_guard 11 [l0, l1, l2] (.int x :: st) σ = if x = nI 0 then den mX7_guard 40 [l0, l1, l2] st σ else if x = nI 1 then den mX7_guard 46 [l0, l1, l2] st σ else if x = nI 2 then den mX7_guard 65 [l0, l1, l2] st σ else if x = nI 3 then den mX7_guard 71 [l0, l1, l2] st σ else den mX7_guard 77 [l0, l1, l2] st σ := by
  by_cases h0 : x = nI 0
  · rw [if_pos h0, h0]; exact dn_swIn (off := 29) eX7_guard dX7_guard_11 (by decide +kernel) (by decide +kernel) (by decide)
  rw [if_neg h0]
  by_cases h1 : x = nI 1
  · rw [if_pos h1, h1]; exact dn_swIn (off := 35) eX7_guard dX7_guard_11 (by decide +kernel) (by decide +kernel) (by decide)
  rw [if_neg h1]
  by_cases h2 : x = nI 2
  · rw [if_pos h2, h2]; exact dn_swIn (off := 54) eX7_guard dX7_guard_11 (by decide +kernel) (by decide +kernel) (by decide)
  rw [if_neg h2]
  by_cases h3 : x = nI 3
  · rw [if_pos h3, h3]; exact dn_swIn (off := 60) eX7_guard dX7_guard_11 (by decide +kernel) (by decide +kernel) (by decide)
  rw [if_neg h3]
  refine dn_swOut eX7_guard dX7_guard_11 (by decide) ?_
  have g : x.toInt ≠ 0 ∧ x.toInt ≠ 1 ∧ x.toInt ≠ 2 ∧ x.toInt ≠ 3 := ⟨sw_ne h0, sw_ne h1, sw_ne h2, sw_ne h3⟩
  omega
theorem rX7_guard_42 (l0 l1 l2 : Option Value) (a0 : Int32) (q : Nat) (σ : dS) : den mX7_guard 42 [l0, l1, l2] [.int a0, .ref q] σ = if disO σ q 6 = true then ((dcall mX7_parentOf [.ref q, .int a0] σ).bind fun r => den mX7_guard 45 [l0, l1, l2] (r.1.toList ++ []) r.2) else none := by
  by_cases h : disO σ q 6 = true
  · rw [if_pos h]; exact dn_callV (e := (0, 128, 962)) (as := [.int a0]) (rest := []) eX7_guard dX7_guard_42 (by decide +kernel) rfl (by decide +kernel) rfl (dcat_le rfl) (dlen_le rfl) rfl h
  · rw [if_neg h]; exact den_noV (e := (0, 128, 962)) (as := [.int a0]) (rest := []) eX7_guard dX7_guard_42 (by decide +kernel) rfl rfl rfl h
theorem rX7_guard_61 (l0 l1 l2 : Option Value) (a0 : Int32) (q : Nat) (σ : dS) : den mX7_guard 61 [l0, l1, l2] [.int a0, .ref q] σ = if disO σ q 6 = true then ((dcall mX7_codeOf [.ref q, .int a0] σ).bind fun r => den mX7_guard 64 [l0, l1, l2] (r.1.toList ++ []) r.2) else none := by
  by_cases h : disO σ q 6 = true
  · rw [if_pos h]; exact dn_callV (e := (0, 123, 966)) (as := [.int a0]) (rest := []) eX7_guard dX7_guard_61 (by decide +kernel) rfl (by decide +kernel) rfl (dcat_le rfl) (dlen_le rfl) rfl h
  · rw [if_neg h]; exact den_noV (e := (0, 123, 966)) (as := [.int a0]) (rest := []) eX7_guard dX7_guard_61 (by decide +kernel) rfl rfl rfl h
theorem rX7_guard_67 (l0 l1 l2 : Option Value) (a0 : Int32) (q : Nat) (σ : dS) : den mX7_guard 67 [l0, l1, l2] [.int a0, .ref q] σ = if disO σ q 6 = true then ((dcall mX7_depthOf [.ref q, .int a0] σ).bind fun r => den mX7_guard 70 [l0, l1, l2] (r.1.toList ++ []) r.2) else none := by
  by_cases h : disO σ q 6 = true
  · rw [if_pos h]; exact dn_callV (e := (0, 129, 958)) (as := [.int a0]) (rest := []) eX7_guard dX7_guard_67 (by decide +kernel) rfl (by decide +kernel) rfl (dcat_le rfl) (dlen_le rfl) rfl h
  · rw [if_neg h]; exact den_noV (e := (0, 129, 958)) (as := [.int a0]) (rest := []) eX7_guard dX7_guard_67 (by decide +kernel) rfl rfl rfl h
theorem rX7_guard_73 (l0 l1 l2 : Option Value) (a0 : Int32) (q : Nat) (σ : dS) : den mX7_guard 73 [l0, l1, l2] [.int a0, .ref q] σ = if disO σ q 6 = true then ((dcall mX7_standUnder [.ref q, .int a0] σ).bind fun r => den mX7_guard 76 [l0, l1, l2] (r.1.toList ++ []) r.2) else none := by
  by_cases h : disO σ q 6 = true
  · rw [if_pos h]; exact dn_callV (e := (0, 140, 1020)) (as := [.int a0]) (rest := []) eX7_guard dX7_guard_73 (by decide +kernel) rfl (by decide +kernel) rfl (dcat_le rfl) (dlen_le rfl) rfl h
  · rw [if_neg h]; exact den_noV (e := (0, 140, 1020)) (as := [.int a0]) (rest := []) eX7_guard dX7_guard_73 (by decide +kernel) rfl rfl rfl h
set_option maxRecDepth 20000 in
theorem SX7_guard : (∀ (l1 l2 : Option Value) (x : Nat) (st : List Value) (σ : dS), den mX7_guard 0 [some (.ref x), l1, l2] st σ = den mX7_guard 1 [some (.ref x), l1, l2] (.ref x :: st) σ) ∧
  (∀ (l0 l2 : Option Value) (x : Int32) (st : List Value) (σ : dS), den mX7_guard 1 [l0, some (.int x), l2] st σ = den mX7_guard 2 [l0, some (.int x), l2] (.int x :: st) σ) ∧
  (∀ (l0 l1 l2 : Option Value) (a0 : Int32) (q : Nat) (σ : dS), den mX7_guard 2 [l0, l1, l2] [.int a0, .ref q] σ = if disO σ q 6 = true then ((dcall mX7_isGuard [.ref q, .int a0] σ).bind fun r => den mX7_guard 5 [l0, l1, l2] (r.1.toList ++ []) r.2) else none) ∧
  (∀ (l0 l1 l2 : Option Value) (x : Int32) (st : List Value) (σ : dS), den mX7_guard 5 [l0, l1, l2] (.int x :: st) σ = if x = 0 then den mX7_guard 8 [l0, l1, l2] st σ else den mX7_guard 10 [l0, l1, l2] st σ) ∧
  (∀ (l0 l1 l2 : Option Value) (st : List Value) (σ : dS), den mX7_guard 8 [l0, l1, l2] st σ = den mX7_guard 9 [l0, l1, l2] (.int ((-1)) :: st) σ) ∧
  (∀ (l0 l1 l2 : Option Value) (v : Int32) (σ : dS), den mX7_guard 9 [l0, l1, l2] [.int v] σ = some (some (.int v), σ)) ∧
  (∀ (l0 l1 : Option Value) (x : Int32) (st : List Value) (σ : dS), den mX7_guard 10 [l0, l1, some (.int x)] st σ = den mX7_guard 11 [l0, l1, some (.int x)] (.int x :: st) σ) ∧
  (∀ (l0 l1 l2 : Option Value) (x : Int32) (st : List Value) (σ : dS), den mX7_guard 11 [l0, l1, l2] (.int x :: st) σ = if x = nI 0 then den mX7_guard 40 [l0, l1, l2] st σ else if x = nI 1 then den mX7_guard 46 [l0, l1, l2] st σ else if x = nI 2 then den mX7_guard 65 [l0, l1, l2] st σ else if x = nI 3 then den mX7_guard 71 [l0, l1, l2] st σ else den mX7_guard 77 [l0, l1, l2] st σ) ∧
  (∀ (l1 l2 : Option Value) (x : Nat) (st : List Value) (σ : dS), den mX7_guard 40 [some (.ref x), l1, l2] st σ = den mX7_guard 41 [some (.ref x), l1, l2] (.ref x :: st) σ) ∧
  (∀ (l0 l2 : Option Value) (x : Int32) (st : List Value) (σ : dS), den mX7_guard 41 [l0, some (.int x), l2] st σ = den mX7_guard 42 [l0, some (.int x), l2] (.int x :: st) σ) ∧
  (∀ (l0 l1 l2 : Option Value) (a0 : Int32) (q : Nat) (σ : dS), den mX7_guard 42 [l0, l1, l2] [.int a0, .ref q] σ = if disO σ q 6 = true then ((dcall mX7_parentOf [.ref q, .int a0] σ).bind fun r => den mX7_guard 45 [l0, l1, l2] (r.1.toList ++ []) r.2) else none) ∧
  (∀ (l0 l1 l2 : Option Value) (v : Int32) (σ : dS), den mX7_guard 45 [l0, l1, l2] [.int v] σ = some (some (.int v), σ)) ∧
  (∀ (l0 l2 : Option Value) (x : Int32) (st : List Value) (σ : dS), den mX7_guard 46 [l0, some (.int x), l2] st σ = den mX7_guard 47 [l0, some (.int x), l2] (.int x :: st) σ) ∧
  (∀ (l0 l1 l2 : Option Value) (x : Int32) (st : List Value) (σ : dS), den mX7_guard 47 [l0, l1, l2] (.int x :: st) σ = if x = 0 then den mX7_guard 50 [l0, l1, l2] st σ else den mX7_guard 55 [l0, l1, l2] st σ) ∧
  (∀ (l0 l1 l2 : Option Value) (st : List Value) (σ : dS), den mX7_guard 50 [l0, l1, l2] st σ = den mX7_guard 52 [l0, l1, l2] (.int ((-4)) :: st) σ) ∧
  (∀ (l0 l1 l2 : Option Value) (st : List Value) (σ : dS), den mX7_guard 52 [l0, l1, l2] st σ = den mX7_guard 64 [l0, l1, l2] st σ) ∧
  (∀ (l1 l2 : Option Value) (x : Nat) (st : List Value) (σ : dS), den mX7_guard 55 [some (.ref x), l1, l2] st σ = den mX7_guard 56 [some (.ref x), l1, l2] (.ref x :: st) σ) ∧
  (∀ (l0 l2 : Option Value) (x : Int32) (st : List Value) (σ : dS), den mX7_guard 56 [l0, some (.int x), l2] st σ = den mX7_guard 57 [l0, some (.int x), l2] (.int x :: st) σ) ∧
  (∀ (l0 l1 l2 : Option Value) (st : List Value) (σ : dS), den mX7_guard 57 [l0, l1, l2] st σ = den mX7_guard 58 [l0, l1, l2] (.int (nI 1) :: st) σ) ∧
  (∀ (l0 l1 l2 : Option Value) (x y : Int32) (st : List Value) (σ : dS), den mX7_guard 58 [l0, l1, l2] (.int y :: .int x :: st) σ = den mX7_guard 59 [l0, l1, l2] (.int (x - y) :: st) σ) ∧
  (∀ (l0 l1 l2 : Option Value) (st : List Value) (σ : dS), den mX7_guard 59 [l0, l1, l2] st σ = den mX7_guard 60 [l0, l1, l2] (.int (nI 2) :: st) σ) ∧
  (∀ (l0 l1 l2 : Option Value) (x y : Int32) (st : List Value) (σ : dS), den mX7_guard 60 [l0, l1, l2] (.int y :: .int x :: st) σ = if y = 0 then none else den mX7_guard 61 [l0, l1, l2] (.int (x / y) :: st) σ) ∧
  (∀ (l0 l1 l2 : Option Value) (a0 : Int32) (q : Nat) (σ : dS), den mX7_guard 61 [l0, l1, l2] [.int a0, .ref q] σ = if disO σ q 6 = true then ((dcall mX7_codeOf [.ref q, .int a0] σ).bind fun r => den mX7_guard 64 [l0, l1, l2] (r.1.toList ++ []) r.2) else none) ∧
  (∀ (l0 l1 l2 : Option Value) (v : Int32) (σ : dS), den mX7_guard 64 [l0, l1, l2] [.int v] σ = some (some (.int v), σ)) ∧
  (∀ (l1 l2 : Option Value) (x : Nat) (st : List Value) (σ : dS), den mX7_guard 65 [some (.ref x), l1, l2] st σ = den mX7_guard 66 [some (.ref x), l1, l2] (.ref x :: st) σ) ∧
  (∀ (l0 l2 : Option Value) (x : Int32) (st : List Value) (σ : dS), den mX7_guard 66 [l0, some (.int x), l2] st σ = den mX7_guard 67 [l0, some (.int x), l2] (.int x :: st) σ) ∧
  (∀ (l0 l1 l2 : Option Value) (a0 : Int32) (q : Nat) (σ : dS), den mX7_guard 67 [l0, l1, l2] [.int a0, .ref q] σ = if disO σ q 6 = true then ((dcall mX7_depthOf [.ref q, .int a0] σ).bind fun r => den mX7_guard 70 [l0, l1, l2] (r.1.toList ++ []) r.2) else none) ∧
  (∀ (l0 l1 l2 : Option Value) (v : Int32) (σ : dS), den mX7_guard 70 [l0, l1, l2] [.int v] σ = some (some (.int v), σ)) ∧
  (∀ (l1 l2 : Option Value) (x : Nat) (st : List Value) (σ : dS), den mX7_guard 71 [some (.ref x), l1, l2] st σ = den mX7_guard 72 [some (.ref x), l1, l2] (.ref x :: st) σ) ∧
  (∀ (l0 l2 : Option Value) (x : Int32) (st : List Value) (σ : dS), den mX7_guard 72 [l0, some (.int x), l2] st σ = den mX7_guard 73 [l0, some (.int x), l2] (.int x :: st) σ) ∧
  (∀ (l0 l1 l2 : Option Value) (a0 : Int32) (q : Nat) (σ : dS), den mX7_guard 73 [l0, l1, l2] [.int a0, .ref q] σ = if disO σ q 6 = true then ((dcall mX7_standUnder [.ref q, .int a0] σ).bind fun r => den mX7_guard 76 [l0, l1, l2] (r.1.toList ++ []) r.2) else none) ∧
  (∀ (l0 l1 l2 : Option Value) (v : Int32) (σ : dS), den mX7_guard 76 [l0, l1, l2] [.int v] σ = some (some (.int v), σ)) ∧
  (∀ (l0 l1 l2 : Option Value) (st : List Value) (σ : dS), den mX7_guard 77 [l0, l1, l2] st σ = den mX7_guard 78 [l0, l1, l2] (.int ((-1)) :: st) σ) ∧
  (∀ (l0 l1 l2 : Option Value) (v : Int32) (σ : dS), den mX7_guard 78 [l0, l1, l2] [.int v] σ = some (some (.int v), σ)) :=
  ⟨fun l1 l2 x st σ => dn_aload_n eX7_guard dX7_guard_0 rfl,
  fun l0 l2 x st σ => dn_iload_n eX7_guard dX7_guard_1 rfl,
  fun l0 l1 l2 a0 q σ => rX7_guard_2 l0 l1 l2 a0 q σ,
  fun l0 l1 l2 x st σ => dn_if_ne eX7_guard dX7_guard_5 (by decide),
  fun l0 l1 l2 st σ => dn_iconst eX7_guard dX7_guard_8 kc_iconst_m1,
  fun l0 l1 l2 v σ => dn_ireturn eX7_guard dX7_guard_9 rfl,
  fun l0 l1 x st σ => dn_iload_n eX7_guard dX7_guard_10 rfl,
  fun l0 l1 l2 x st σ => rX7_guard_11 l0 l1 l2 x st σ,
  fun l1 l2 x st σ => dn_aload_n eX7_guard dX7_guard_40 rfl,
  fun l0 l2 x st σ => dn_iload_n eX7_guard dX7_guard_41 rfl,
  fun l0 l1 l2 a0 q σ => rX7_guard_42 l0 l1 l2 a0 q σ,
  fun l0 l1 l2 v σ => dn_ireturn eX7_guard dX7_guard_45 rfl,
  fun l0 l2 x st σ => dn_iload_n eX7_guard dX7_guard_46 rfl,
  fun l0 l1 l2 x st σ => dn_if_ne eX7_guard dX7_guard_47 (by decide),
  fun l0 l1 l2 st σ => dn_bipush eX7_guard dX7_guard_50 kc_bipush_m4,
  fun l0 l1 l2 st σ => dn_goto eX7_guard dX7_guard_52 (by decide),
  fun l1 l2 x st σ => dn_aload_n eX7_guard dX7_guard_55 rfl,
  fun l0 l2 x st σ => dn_iload_n eX7_guard dX7_guard_56 rfl,
  fun l0 l1 l2 st σ => dn_iconst eX7_guard dX7_guard_57 kc_iconst_1,
  fun l0 l1 l2 x y st σ => dn_isub eX7_guard dX7_guard_58,
  fun l0 l1 l2 st σ => dn_iconst eX7_guard dX7_guard_59 kc_iconst_2,
  fun l0 l1 l2 x y st σ => dn_idiv eX7_guard dX7_guard_60,
  fun l0 l1 l2 a0 q σ => rX7_guard_61 l0 l1 l2 a0 q σ,
  fun l0 l1 l2 v σ => dn_ireturn eX7_guard dX7_guard_64 rfl,
  fun l1 l2 x st σ => dn_aload_n eX7_guard dX7_guard_65 rfl,
  fun l0 l2 x st σ => dn_iload_n eX7_guard dX7_guard_66 rfl,
  fun l0 l1 l2 a0 q σ => rX7_guard_67 l0 l1 l2 a0 q σ,
  fun l0 l1 l2 v σ => dn_ireturn eX7_guard dX7_guard_70 rfl,
  fun l1 l2 x st σ => dn_aload_n eX7_guard dX7_guard_71 rfl,
  fun l0 l2 x st σ => dn_iload_n eX7_guard dX7_guard_72 rfl,
  fun l0 l1 l2 a0 q σ => rX7_guard_73 l0 l1 l2 a0 q σ,
  fun l0 l1 l2 v σ => dn_ireturn eX7_guard dX7_guard_76 rfl,
  fun l0 l1 l2 st σ => dn_iconst eX7_guard dX7_guard_77 kc_iconst_m1,
  fun l0 l1 l2 v σ => dn_ireturn eX7_guard dX7_guard_78 rfl⟩
theorem CX7_within (a0 : Nat) (a1 : Int32) (a2 : Int32) (σ : dS) : dcall mX7_within [.ref a0, .int a1, .int a2] σ = den mX7_within 0 [some (.ref a0), some (.int a1), some (.int a2)] [] σ := dcall_den (by decide) rfl
theorem rX7_within_2 (l0 l1 l2 : Option Value) (a0 : Int32) (q : Nat) (σ : dS) : den mX7_within 2 [l0, l1, l2] [.int a0, .ref q] σ = if disO σ q 6 = true then ((dcall mX7_isGuard [.ref q, .int a0] σ).bind fun r => den mX7_within 5 [l0, l1, l2] (r.1.toList ++ []) r.2) else none := by
  by_cases h : disO σ q 6 = true
  · rw [if_pos h]; exact dn_callV (e := (0, 126, 1016)) (as := [.int a0]) (rest := []) eX7_within dX7_within_2 (by decide +kernel) rfl (by decide +kernel) rfl (dcat_le rfl) (dlen_le rfl) rfl h
  · rw [if_neg h]; exact den_noV (e := (0, 126, 1016)) (as := [.int a0]) (rest := []) eX7_within dX7_within_2 (by decide +kernel) rfl rfl rfl h
theorem rX7_within_10 (l0 l1 l2 : Option Value) (a0 : Int32) (q : Nat) (σ : dS) : den mX7_within 10 [l0, l1, l2] [.int a0, .ref q] σ = if disO σ q 6 = true then ((dcall mX7_isGuard [.ref q, .int a0] σ).bind fun r => den mX7_within 13 [l0, l1, l2] (r.1.toList ++ []) r.2) else none := by
  by_cases h : disO σ q 6 = true
  · rw [if_pos h]; exact dn_callV (e := (0, 126, 1016)) (as := [.int a0]) (rest := []) eX7_within dX7_within_10 (by decide +kernel) rfl (by decide +kernel) rfl (dcat_le rfl) (dlen_le rfl) rfl h
  · rw [if_neg h]; exact den_noV (e := (0, 126, 1016)) (as := [.int a0]) (rest := []) eX7_within dX7_within_10 (by decide +kernel) rfl rfl rfl h
theorem rX7_within_19 (l0 l1 l2 : Option Value) (a0 : Int32) (a1 : Int32) (q : Nat) (σ : dS) : den mX7_within 19 [l0, l1, l2] [.int a1, .int a0, .ref q] σ = if disO σ q 6 = true then ((dcall mX7_isWithin [.ref q, .int a0, .int a1] σ).bind fun r => den mX7_within 22 [l0, l1, l2] (r.1.toList ++ []) r.2) else none := by
  by_cases h : disO σ q 6 = true
  · rw [if_pos h]; exact dn_callV (e := (0, 130, 996)) (as := [.int a0, .int a1]) (rest := []) eX7_within dX7_within_19 (by decide +kernel) rfl (by decide +kernel) rfl (dcat_le rfl) (dlen_le rfl) rfl h
  · rw [if_neg h]; exact den_noV (e := (0, 130, 996)) (as := [.int a0, .int a1]) (rest := []) eX7_within dX7_within_19 (by decide +kernel) rfl rfl rfl h
set_option maxRecDepth 20000 in
theorem SX7_within : (∀ (l1 l2 : Option Value) (x : Nat) (st : List Value) (σ : dS), den mX7_within 0 [some (.ref x), l1, l2] st σ = den mX7_within 1 [some (.ref x), l1, l2] (.ref x :: st) σ) ∧
  (∀ (l0 l2 : Option Value) (x : Int32) (st : List Value) (σ : dS), den mX7_within 1 [l0, some (.int x), l2] st σ = den mX7_within 2 [l0, some (.int x), l2] (.int x :: st) σ) ∧
  (∀ (l0 l1 l2 : Option Value) (a0 : Int32) (q : Nat) (σ : dS), den mX7_within 2 [l0, l1, l2] [.int a0, .ref q] σ = if disO σ q 6 = true then ((dcall mX7_isGuard [.ref q, .int a0] σ).bind fun r => den mX7_within 5 [l0, l1, l2] (r.1.toList ++ []) r.2) else none) ∧
  (∀ (l0 l1 l2 : Option Value) (x : Int32) (st : List Value) (σ : dS), den mX7_within 5 [l0, l1, l2] (.int x :: st) σ = if x = 0 then den mX7_within 28 [l0, l1, l2] st σ else den mX7_within 8 [l0, l1, l2] st σ) ∧
  (∀ (l1 l2 : Option Value) (x : Nat) (st : List Value) (σ : dS), den mX7_within 8 [some (.ref x), l1, l2] st σ = den mX7_within 9 [some (.ref x), l1, l2] (.ref x :: st) σ) ∧
  (∀ (l0 l1 : Option Value) (x : Int32) (st : List Value) (σ : dS), den mX7_within 9 [l0, l1, some (.int x)] st σ = den mX7_within 10 [l0, l1, some (.int x)] (.int x :: st) σ) ∧
  (∀ (l0 l1 l2 : Option Value) (a0 : Int32) (q : Nat) (σ : dS), den mX7_within 10 [l0, l1, l2] [.int a0, .ref q] σ = if disO σ q 6 = true then ((dcall mX7_isGuard [.ref q, .int a0] σ).bind fun r => den mX7_within 13 [l0, l1, l2] (r.1.toList ++ []) r.2) else none) ∧
  (∀ (l0 l1 l2 : Option Value) (x : Int32) (st : List Value) (σ : dS), den mX7_within 13 [l0, l1, l2] (.int x :: st) σ = if x = 0 then den mX7_within 28 [l0, l1, l2] st σ else den mX7_within 16 [l0, l1, l2] st σ) ∧
  (∀ (l1 l2 : Option Value) (x : Nat) (st : List Value) (σ : dS), den mX7_within 16 [some (.ref x), l1, l2] st σ = den mX7_within 17 [some (.ref x), l1, l2] (.ref x :: st) σ) ∧
  (∀ (l0 l2 : Option Value) (x : Int32) (st : List Value) (σ : dS), den mX7_within 17 [l0, some (.int x), l2] st σ = den mX7_within 18 [l0, some (.int x), l2] (.int x :: st) σ) ∧
  (∀ (l0 l1 : Option Value) (x : Int32) (st : List Value) (σ : dS), den mX7_within 18 [l0, l1, some (.int x)] st σ = den mX7_within 19 [l0, l1, some (.int x)] (.int x :: st) σ) ∧
  (∀ (l0 l1 l2 : Option Value) (a0 : Int32) (a1 : Int32) (q : Nat) (σ : dS), den mX7_within 19 [l0, l1, l2] [.int a1, .int a0, .ref q] σ = if disO σ q 6 = true then ((dcall mX7_isWithin [.ref q, .int a0, .int a1] σ).bind fun r => den mX7_within 22 [l0, l1, l2] (r.1.toList ++ []) r.2) else none) ∧
  (∀ (l0 l1 l2 : Option Value) (a0 : Int32) (σ : dS), den mX7_within 22 [l0, l1, l2] [.int a0] σ = (dcall mX7_flag [.int a0] σ).bind fun r => den mX7_within 25 [l0, l1, l2] (r.1.toList ++ []) r.2) ∧
  (∀ (l0 l1 l2 : Option Value) (st : List Value) (σ : dS), den mX7_within 25 [l0, l1, l2] st σ = den mX7_within 29 [l0, l1, l2] st σ) ∧
  (∀ (l0 l1 l2 : Option Value) (st : List Value) (σ : dS), den mX7_within 28 [l0, l1, l2] st σ = den mX7_within 29 [l0, l1, l2] (.int ((-1)) :: st) σ) ∧
  (∀ (l0 l1 l2 : Option Value) (v : Int32) (σ : dS), den mX7_within 29 [l0, l1, l2] [.int v] σ = some (some (.int v), σ)) :=
  ⟨fun l1 l2 x st σ => dn_aload_n eX7_within dX7_within_0 rfl,
  fun l0 l2 x st σ => dn_iload_n eX7_within dX7_within_1 rfl,
  fun l0 l1 l2 a0 q σ => rX7_within_2 l0 l1 l2 a0 q σ,
  fun l0 l1 l2 x st σ => dn_if_eq eX7_within dX7_within_5 (by decide),
  fun l1 l2 x st σ => dn_aload_n eX7_within dX7_within_8 rfl,
  fun l0 l1 x st σ => dn_iload_n eX7_within dX7_within_9 rfl,
  fun l0 l1 l2 a0 q σ => rX7_within_10 l0 l1 l2 a0 q σ,
  fun l0 l1 l2 x st σ => dn_if_eq eX7_within dX7_within_13 (by decide),
  fun l1 l2 x st σ => dn_aload_n eX7_within dX7_within_16 rfl,
  fun l0 l2 x st σ => dn_iload_n eX7_within dX7_within_17 rfl,
  fun l0 l1 x st σ => dn_iload_n eX7_within dX7_within_18 rfl,
  fun l0 l1 l2 a0 a1 q σ => rX7_within_19 l0 l1 l2 a0 a1 q σ,
  fun l0 l1 l2 a0 σ => dn_callS (e := (1, 103, 951)) (as := [.int a0]) (rest := []) eX7_within dX7_within_22 (by decide +kernel) (Or.inl rfl) (by decide +kernel) rfl (dcat_le rfl) (dlen_le rfl) rfl,
  fun l0 l1 l2 st σ => dn_goto eX7_within dX7_within_25 (by decide),
  fun l0 l1 l2 st σ => dn_iconst eX7_within dX7_within_28 kc_iconst_m1,
  fun l0 l1 l2 v σ => dn_ireturn eX7_within dX7_within_29 rfl⟩
theorem CX7_holdsBy (a0 : Nat) (a1 : Int32) (a2 : Int32) (σ : dS) : dcall mX7_holdsBy [.ref a0, .int a1, .int a2] σ = den mX7_holdsBy 0 [some (.ref a0), some (.int a1), some (.int a2), none, none] [] σ := dcall_den (by decide) rfl
theorem hX7_holdsBy_5 (l0 l1 l2 l3 : Option Value) (x : Int32) (st : List Value) (σ : dS) : den mX7_holdsBy 5 [l0, l1, l2, l3, some (.int x)] st σ = den mX7_holdsBy 7 [l0, l1, l2, l3, some (.int x)] (.int x :: st) σ := dn_iload eX7_holdsBy dX7_holdsBy_5 rfl
theorem rX7_holdsBy_40 (l0 l1 l2 l3 l4 : Option Value) (a0 : Int32) (q : Nat) (σ : dS) : den mX7_holdsBy 40 [l0, l1, l2, l3, l4] [.int a0, .ref q] σ = if disO σ q 6 = true then ((dcall mX7_parentOf [.ref q, .int a0] σ).bind fun r => den mX7_holdsBy 43 [l0, l1, l2, l3, l4] (r.1.toList ++ []) r.2) else none := by
  by_cases h : disO σ q 6 = true
  · rw [if_pos h]; exact dn_callV (e := (0, 128, 962)) (as := [.int a0]) (rest := []) eX7_holdsBy dX7_holdsBy_40 (by decide +kernel) rfl (by decide +kernel) rfl (dcat_le rfl) (dlen_le rfl) rfl h
  · rw [if_neg h]; exact den_noV (e := (0, 128, 962)) (as := [.int a0]) (rest := []) eX7_holdsBy dX7_holdsBy_40 (by decide +kernel) rfl rfl rfl h
set_option maxRecDepth 20000 in
theorem SX7_holdsBy : (∀ (l0 l1 l2 l3 l4 : Option Value) (st : List Value) (σ : dS), den mX7_holdsBy 0 [l0, l1, l2, l3, l4] st σ = den mX7_holdsBy 1 [l0, l1, l2, l3, l4] (.int (nI 1) :: st) σ) ∧
  (∀ (l0 l1 l3 l4 : Option Value) (x : Int32) (y : Int32) (st : List Value) (σ : dS), den mX7_holdsBy 1 [l0, l1, some (.int y), l3, l4] (.int x :: st) σ = den mX7_holdsBy 2 [l0, l1, some (.int y), some (.int x), l4] st σ) ∧
  (∀ (l0 l2 l3 l4 : Option Value) (x : Int32) (st : List Value) (σ : dS), den mX7_holdsBy 2 [l0, some (.int x), l2, l3, l4] st σ = den mX7_holdsBy 3 [l0, some (.int x), l2, l3, l4] (.int x :: st) σ) ∧
  (∀ (l0 l1 l2 l4 : Option Value) (x : Int32) (y : Int32) (st : List Value) (σ : dS), den mX7_holdsBy 3 [l0, l1, l2, some (.int y), l4] (.int x :: st) σ = den mX7_holdsBy 5 [l0, l1, l2, some (.int y), some (.int x)] st σ) ∧
  (∀ (l0 l1 l2 l3 l4 : Option Value) (x : Int32) (st : List Value) (σ : dS), den mX7_holdsBy 7 [l0, l1, l2, l3, l4] (.int x :: st) σ = if 0 < x then den mX7_holdsBy 10 [l0, l1, l2, l3, l4] st σ else den mX7_holdsBy 48 [l0, l1, l2, l3, l4] st σ) ∧
  (∀ (l0 l1 l2 l4 : Option Value) (x : Int32) (st : List Value) (σ : dS), den mX7_holdsBy 10 [l0, l1, l2, some (.int x), l4] st σ = den mX7_holdsBy 11 [l0, l1, l2, some (.int x), l4] (.int x :: st) σ) ∧
  (∀ (l0 l1 l2 l3 l4 : Option Value) (x : Int32) (st : List Value) (σ : dS), den mX7_holdsBy 11 [l0, l1, l2, l3, l4] (.int x :: st) σ = if x = 0 then den mX7_holdsBy 35 [l0, l1, l2, l3, l4] st σ else den mX7_holdsBy 14 [l0, l1, l2, l3, l4] st σ) ∧
  (∀ (l0 l1 l3 l4 : Option Value) (x : Int32) (st : List Value) (σ : dS), den mX7_holdsBy 14 [l0, l1, some (.int x), l3, l4] st σ = den mX7_holdsBy 15 [l0, l1, some (.int x), l3, l4] (.int x :: st) σ) ∧
  (∀ (l0 l1 l2 l3 : Option Value) (x : Int32) (st : List Value) (σ : dS), den mX7_holdsBy 15 [l0, l1, l2, l3, some (.int x)] st σ = den mX7_holdsBy 17 [l0, l1, l2, l3, some (.int x)] (.int x :: st) σ) ∧
  (∀ (l0 l1 l2 l3 l4 : Option Value) (st : List Value) (σ : dS), den mX7_holdsBy 17 [l0, l1, l2, l3, l4] st σ = den mX7_holdsBy 18 [l0, l1, l2, l3, l4] (.int (nI 1) :: st) σ) ∧
  (∀ (l0 l1 l2 l3 l4 : Option Value) (x y : Int32) (st : List Value) (σ : dS), den mX7_holdsBy 18 [l0, l1, l2, l3, l4] (.int y :: .int x :: st) σ = den mX7_holdsBy 19 [l0, l1, l2, l3, l4] (.int (x - y) :: st) σ) ∧
  (∀ (l0 l1 l2 l3 l4 : Option Value) (st : List Value) (σ : dS), den mX7_holdsBy 19 [l0, l1, l2, l3, l4] st σ = den mX7_holdsBy 20 [l0, l1, l2, l3, l4] (.int (nI 2) :: st) σ) ∧
  (∀ (l0 l1 l2 l3 l4 : Option Value) (x y : Int32) (st : List Value) (σ : dS), den mX7_holdsBy 20 [l0, l1, l2, l3, l4] (.int y :: .int x :: st) σ = if y = 0 then none else den mX7_holdsBy 21 [l0, l1, l2, l3, l4] (.int (x / y) :: st) σ) ∧
  (∀ (l0 l1 l2 l3 l4 : Option Value) (x y : Int32) (st : List Value) (σ : dS), den mX7_holdsBy 21 [l0, l1, l2, l3, l4] (.int y :: .int x :: st) σ = den mX7_holdsBy 22 [l0, l1, l2, l3, l4] (.int (x >>> (y &&& 31)) :: st) σ) ∧
  (∀ (l0 l1 l2 l3 l4 : Option Value) (st : List Value) (σ : dS), den mX7_holdsBy 22 [l0, l1, l2, l3, l4] st σ = den mX7_holdsBy 23 [l0, l1, l2, l3, l4] (.int (nI 1) :: st) σ) ∧
  (∀ (l0 l1 l2 l3 l4 : Option Value) (x y : Int32) (st : List Value) (σ : dS), den mX7_holdsBy 23 [l0, l1, l2, l3, l4] (.int y :: .int x :: st) σ = den mX7_holdsBy 24 [l0, l1, l2, l3, l4] (.int (x &&& y) :: st) σ) ∧
  (∀ (l0 l1 l2 l3 : Option Value) (x : Int32) (st : List Value) (σ : dS), den mX7_holdsBy 24 [l0, l1, l2, l3, some (.int x)] st σ = den mX7_holdsBy 26 [l0, l1, l2, l3, some (.int x)] (.int x :: st) σ) ∧
  (∀ (l0 l1 l2 l3 l4 : Option Value) (st : List Value) (σ : dS), den mX7_holdsBy 26 [l0, l1, l2, l3, l4] st σ = den mX7_holdsBy 27 [l0, l1, l2, l3, l4] (.int (nI 2) :: st) σ) ∧
  (∀ (l0 l1 l2 l3 l4 : Option Value) (x y : Int32) (st : List Value) (σ : dS), den mX7_holdsBy 27 [l0, l1, l2, l3, l4] (.int y :: .int x :: st) σ = if y = 0 then none else den mX7_holdsBy 28 [l0, l1, l2, l3, l4] (.int (x - x / y * y) :: st) σ) ∧
  (∀ (l0 l1 l2 l3 l4 : Option Value) (x y : Int32) (st : List Value) (σ : dS), den mX7_holdsBy 28 [l0, l1, l2, l3, l4] (.int y :: .int x :: st) σ = if x = y then den mX7_holdsBy 31 [l0, l1, l2, l3, l4] st σ else den mX7_holdsBy 35 [l0, l1, l2, l3, l4] st σ) ∧
  (∀ (l0 l1 l2 l3 l4 : Option Value) (st : List Value) (σ : dS), den mX7_holdsBy 31 [l0, l1, l2, l3, l4] st σ = den mX7_holdsBy 32 [l0, l1, l2, l3, l4] (.int (nI 1) :: st) σ) ∧
  (∀ (l0 l1 l2 l3 l4 : Option Value) (st : List Value) (σ : dS), den mX7_holdsBy 32 [l0, l1, l2, l3, l4] st σ = den mX7_holdsBy 36 [l0, l1, l2, l3, l4] st σ) ∧
  (∀ (l0 l1 l2 l3 l4 : Option Value) (st : List Value) (σ : dS), den mX7_holdsBy 35 [l0, l1, l2, l3, l4] st σ = den mX7_holdsBy 36 [l0, l1, l2, l3, l4] (.int (nI 0) :: st) σ) ∧
  (∀ (l0 l1 l3 l4 : Option Value) (x : Int32) (y : Int32) (st : List Value) (σ : dS), den mX7_holdsBy 36 [l0, l1, some (.int y), l3, l4] (.int x :: st) σ = den mX7_holdsBy 37 [l0, l1, some (.int y), some (.int x), l4] st σ) ∧
  (∀ (l1 l2 l3 l4 : Option Value) (x : Nat) (st : List Value) (σ : dS), den mX7_holdsBy 37 [some (.ref x), l1, l2, l3, l4] st σ = den mX7_holdsBy 38 [some (.ref x), l1, l2, l3, l4] (.ref x :: st) σ) ∧
  (∀ (l0 l1 l2 l3 : Option Value) (x : Int32) (st : List Value) (σ : dS), den mX7_holdsBy 38 [l0, l1, l2, l3, some (.int x)] st σ = den mX7_holdsBy 40 [l0, l1, l2, l3, some (.int x)] (.int x :: st) σ) ∧
  (∀ (l0 l1 l2 l3 l4 : Option Value) (a0 : Int32) (q : Nat) (σ : dS), den mX7_holdsBy 40 [l0, l1, l2, l3, l4] [.int a0, .ref q] σ = if disO σ q 6 = true then ((dcall mX7_parentOf [.ref q, .int a0] σ).bind fun r => den mX7_holdsBy 43 [l0, l1, l2, l3, l4] (r.1.toList ++ []) r.2) else none) ∧
  (∀ (l0 l1 l2 l4 : Option Value) (x : Int32) (y : Int32) (st : List Value) (σ : dS), den mX7_holdsBy 43 [l0, l1, l2, some (.int y), l4] (.int x :: st) σ = den mX7_holdsBy 45 [l0, l1, l2, some (.int y), some (.int x)] st σ) ∧
  (∀ (l0 l1 l2 l3 l4 : Option Value) (st : List Value) (σ : dS), den mX7_holdsBy 45 [l0, l1, l2, l3, l4] st σ = den mX7_holdsBy 5 [l0, l1, l2, l3, l4] st σ) ∧
  (∀ (l0 l1 l2 l4 : Option Value) (x : Int32) (st : List Value) (σ : dS), den mX7_holdsBy 48 [l0, l1, l2, some (.int x), l4] st σ = den mX7_holdsBy 49 [l0, l1, l2, some (.int x), l4] (.int x :: st) σ) ∧
  (∀ (l0 l1 l2 l3 l4 : Option Value) (v : Int32) (σ : dS), den mX7_holdsBy 49 [l0, l1, l2, l3, l4] [.int v] σ = if v = 0 ∨ v = 1 then some (some (.int v), σ) else none) :=
  ⟨fun l0 l1 l2 l3 l4 st σ => dn_iconst eX7_holdsBy dX7_holdsBy_0 kc_iconst_1,
  fun l0 l1 l3 l4 x y st σ => dn_istore_n eX7_holdsBy dX7_holdsBy_1 rfl,
  fun l0 l2 l3 l4 x st σ => dn_iload_n eX7_holdsBy dX7_holdsBy_2 rfl,
  fun l0 l1 l2 l4 x y st σ => dn_istore eX7_holdsBy dX7_holdsBy_3 rfl,
  fun l0 l1 l2 l3 l4 x st σ => dn_if_le eX7_holdsBy dX7_holdsBy_7 (by decide),
  fun l0 l1 l2 l4 x st σ => dn_iload_n eX7_holdsBy dX7_holdsBy_10 rfl,
  fun l0 l1 l2 l3 l4 x st σ => dn_if_eq eX7_holdsBy dX7_holdsBy_11 (by decide),
  fun l0 l1 l3 l4 x st σ => dn_iload_n eX7_holdsBy dX7_holdsBy_14 rfl,
  fun l0 l1 l2 l3 x st σ => dn_iload eX7_holdsBy dX7_holdsBy_15 rfl,
  fun l0 l1 l2 l3 l4 st σ => dn_iconst eX7_holdsBy dX7_holdsBy_17 kc_iconst_1,
  fun l0 l1 l2 l3 l4 x y st σ => dn_isub eX7_holdsBy dX7_holdsBy_18,
  fun l0 l1 l2 l3 l4 st σ => dn_iconst eX7_holdsBy dX7_holdsBy_19 kc_iconst_2,
  fun l0 l1 l2 l3 l4 x y st σ => dn_idiv eX7_holdsBy dX7_holdsBy_20,
  fun l0 l1 l2 l3 l4 x y st σ => dn_ishr eX7_holdsBy dX7_holdsBy_21,
  fun l0 l1 l2 l3 l4 st σ => dn_iconst eX7_holdsBy dX7_holdsBy_22 kc_iconst_1,
  fun l0 l1 l2 l3 l4 x y st σ => dn_iand eX7_holdsBy dX7_holdsBy_23,
  fun l0 l1 l2 l3 x st σ => dn_iload eX7_holdsBy dX7_holdsBy_24 rfl,
  fun l0 l1 l2 l3 l4 st σ => dn_iconst eX7_holdsBy dX7_holdsBy_26 kc_iconst_2,
  fun l0 l1 l2 l3 l4 x y st σ => dn_irem eX7_holdsBy dX7_holdsBy_27,
  fun l0 l1 l2 l3 l4 x y st σ => dn_icmp_ne eX7_holdsBy dX7_holdsBy_28 (by decide),
  fun l0 l1 l2 l3 l4 st σ => dn_iconst eX7_holdsBy dX7_holdsBy_31 kc_iconst_1,
  fun l0 l1 l2 l3 l4 st σ => dn_goto eX7_holdsBy dX7_holdsBy_32 (by decide),
  fun l0 l1 l2 l3 l4 st σ => dn_iconst eX7_holdsBy dX7_holdsBy_35 kc_iconst_0,
  fun l0 l1 l3 l4 x y st σ => dn_istore_n eX7_holdsBy dX7_holdsBy_36 rfl,
  fun l1 l2 l3 l4 x st σ => dn_aload_n eX7_holdsBy dX7_holdsBy_37 rfl,
  fun l0 l1 l2 l3 x st σ => dn_iload eX7_holdsBy dX7_holdsBy_38 rfl,
  fun l0 l1 l2 l3 l4 a0 q σ => rX7_holdsBy_40 l0 l1 l2 l3 l4 a0 q σ,
  fun l0 l1 l2 l4 x y st σ => dn_istore eX7_holdsBy dX7_holdsBy_43 rfl,
  fun l0 l1 l2 l3 l4 st σ => dn_goto eX7_holdsBy dX7_holdsBy_45 (by decide),
  fun l0 l1 l2 l4 x st σ => dn_iload_n eX7_holdsBy dX7_holdsBy_48 rfl,
  fun l0 l1 l2 l3 l4 v σ => dn_zreturn eX7_holdsBy dX7_holdsBy_49 rfl⟩
theorem CX7_apart (a0 : Nat) (a1 : Int32) (a2 : Int32) (σ : dS) : dcall mX7_apart [.ref a0, .int a1, .int a2] σ = den mX7_apart 0 [some (.ref a0), some (.int a1), some (.int a2), none, none] [] σ := dcall_den (by decide) rfl
theorem rX7_apart_2 (l0 l1 l2 l3 l4 : Option Value) (a0 : Int32) (q : Nat) (σ : dS) : den mX7_apart 2 [l0, l1, l2, l3, l4] [.int a0, .ref q] σ = if disO σ q 6 = true then ((dcall mX7_isGuard [.ref q, .int a0] σ).bind fun r => den mX7_apart 5 [l0, l1, l2, l3, l4] (r.1.toList ++ []) r.2) else none := by
  by_cases h : disO σ q 6 = true
  · rw [if_pos h]; exact dn_callV (e := (0, 126, 1016)) (as := [.int a0]) (rest := []) eX7_apart dX7_apart_2 (by decide +kernel) rfl (by decide +kernel) rfl (dcat_le rfl) (dlen_le rfl) rfl h
  · rw [if_neg h]; exact den_noV (e := (0, 126, 1016)) (as := [.int a0]) (rest := []) eX7_apart dX7_apart_2 (by decide +kernel) rfl rfl rfl h
theorem rX7_apart_10 (l0 l1 l2 l3 l4 : Option Value) (a0 : Int32) (q : Nat) (σ : dS) : den mX7_apart 10 [l0, l1, l2, l3, l4] [.int a0, .ref q] σ = if disO σ q 6 = true then ((dcall mX7_isGuard [.ref q, .int a0] σ).bind fun r => den mX7_apart 13 [l0, l1, l2, l3, l4] (r.1.toList ++ []) r.2) else none := by
  by_cases h : disO σ q 6 = true
  · rw [if_pos h]; exact dn_callV (e := (0, 126, 1016)) (as := [.int a0]) (rest := []) eX7_apart dX7_apart_10 (by decide +kernel) rfl (by decide +kernel) rfl (dcat_le rfl) (dlen_le rfl) rfl h
  · rw [if_neg h]; exact den_noV (e := (0, 126, 1016)) (as := [.int a0]) (rest := []) eX7_apart dX7_apart_10 (by decide +kernel) rfl rfl rfl h
theorem hX7_apart_23 (l0 l1 l2 l3 : Option Value) (x : Int32) (st : List Value) (σ : dS) : den mX7_apart 23 [l0, l1, l2, l3, some (.int x)] st σ = den mX7_apart 25 [l0, l1, l2, l3, some (.int x)] (.int x :: st) σ := dn_iload eX7_apart dX7_apart_23 rfl
theorem rX7_apart_27 (l0 l1 l2 l3 l4 : Option Value) (b0 : Int32) (b1 : Int32) (q : Nat) (σ : dS) : den mX7_apart 27 [l0, l1, l2, l3, l4] [.ref q, .int b0, .int b1] σ = if disO σ q 6 = true then ((dcall mX7_ifs [.ref q] σ).bind fun r => den mX7_apart 30 [l0, l1, l2, l3, l4] (r.1.toList ++ [.int b0, .int b1]) r.2) else none := by
  by_cases h : disO σ q 6 = true
  · rw [if_pos h]; exact dn_callV (e := (0, 122, 943)) (as := []) (rest := [.int b0, .int b1]) eX7_apart dX7_apart_27 (by decide +kernel) rfl (by decide +kernel) rfl (dcat_le rfl) (dlen_le rfl) rfl h
  · rw [if_neg h]; exact den_noV (e := (0, 122, 943)) (as := []) (rest := [.int b0, .int b1]) eX7_apart dX7_apart_27 (by decide +kernel) rfl rfl rfl h
theorem rX7_apart_42 (l0 l1 l2 l3 l4 : Option Value) (a0 : Int32) (a1 : Int32) (q : Nat) (σ : dS) : den mX7_apart 42 [l0, l1, l2, l3, l4] [.int a1, .int a0, .ref q] σ = if disO σ q 6 = true then ((dcall mX7_holdsBy [.ref q, .int a0, .int a1] σ).bind fun r => den mX7_apart 45 [l0, l1, l2, l3, l4] (r.1.toList ++ []) r.2) else none := by
  by_cases h : disO σ q 6 = true
  · rw [if_pos h]; exact dn_callV (e := (0, 143, 1032)) (as := [.int a0, .int a1]) (rest := []) eX7_apart dX7_apart_42 (by decide +kernel) rfl (by decide +kernel) rfl (dcat_le rfl) (dlen_le rfl) rfl h
  · rw [if_neg h]; exact den_noV (e := (0, 143, 1032)) (as := [.int a0, .int a1]) (rest := []) eX7_apart dX7_apart_42 (by decide +kernel) rfl rfl rfl h
theorem rX7_apart_52 (l0 l1 l2 l3 l4 : Option Value) (a0 : Int32) (a1 : Int32) (q : Nat) (σ : dS) : den mX7_apart 52 [l0, l1, l2, l3, l4] [.int a1, .int a0, .ref q] σ = if disO σ q 6 = true then ((dcall mX7_holdsBy [.ref q, .int a0, .int a1] σ).bind fun r => den mX7_apart 55 [l0, l1, l2, l3, l4] (r.1.toList ++ []) r.2) else none := by
  by_cases h : disO σ q 6 = true
  · rw [if_pos h]; exact dn_callV (e := (0, 143, 1032)) (as := [.int a0, .int a1]) (rest := []) eX7_apart dX7_apart_52 (by decide +kernel) rfl (by decide +kernel) rfl (dcat_le rfl) (dlen_le rfl) rfl h
  · rw [if_neg h]; exact den_noV (e := (0, 143, 1032)) (as := [.int a0, .int a1]) (rest := []) eX7_apart dX7_apart_52 (by decide +kernel) rfl rfl rfl h
set_option maxRecDepth 20000 in
theorem SX7_apart_0 : (∀ (l1 l2 l3 l4 : Option Value) (x : Nat) (st : List Value) (σ : dS), den mX7_apart 0 [some (.ref x), l1, l2, l3, l4] st σ = den mX7_apart 1 [some (.ref x), l1, l2, l3, l4] (.ref x :: st) σ) ∧
  (∀ (l0 l2 l3 l4 : Option Value) (x : Int32) (st : List Value) (σ : dS), den mX7_apart 1 [l0, some (.int x), l2, l3, l4] st σ = den mX7_apart 2 [l0, some (.int x), l2, l3, l4] (.int x :: st) σ) ∧
  (∀ (l0 l1 l2 l3 l4 : Option Value) (a0 : Int32) (q : Nat) (σ : dS), den mX7_apart 2 [l0, l1, l2, l3, l4] [.int a0, .ref q] σ = if disO σ q 6 = true then ((dcall mX7_isGuard [.ref q, .int a0] σ).bind fun r => den mX7_apart 5 [l0, l1, l2, l3, l4] (r.1.toList ++ []) r.2) else none) ∧
  (∀ (l0 l1 l2 l3 l4 : Option Value) (x : Int32) (st : List Value) (σ : dS), den mX7_apart 5 [l0, l1, l2, l3, l4] (.int x :: st) σ = if x = 0 then den mX7_apart 16 [l0, l1, l2, l3, l4] st σ else den mX7_apart 8 [l0, l1, l2, l3, l4] st σ) ∧
  (∀ (l1 l2 l3 l4 : Option Value) (x : Nat) (st : List Value) (σ : dS), den mX7_apart 8 [some (.ref x), l1, l2, l3, l4] st σ = den mX7_apart 9 [some (.ref x), l1, l2, l3, l4] (.ref x :: st) σ) ∧
  (∀ (l0 l1 l3 l4 : Option Value) (x : Int32) (st : List Value) (σ : dS), den mX7_apart 9 [l0, l1, some (.int x), l3, l4] st σ = den mX7_apart 10 [l0, l1, some (.int x), l3, l4] (.int x :: st) σ) ∧
  (∀ (l0 l1 l2 l3 l4 : Option Value) (a0 : Int32) (q : Nat) (σ : dS), den mX7_apart 10 [l0, l1, l2, l3, l4] [.int a0, .ref q] σ = if disO σ q 6 = true then ((dcall mX7_isGuard [.ref q, .int a0] σ).bind fun r => den mX7_apart 13 [l0, l1, l2, l3, l4] (r.1.toList ++ []) r.2) else none) ∧
  (∀ (l0 l1 l2 l3 l4 : Option Value) (x : Int32) (st : List Value) (σ : dS), den mX7_apart 13 [l0, l1, l2, l3, l4] (.int x :: st) σ = if x = 0 then den mX7_apart 16 [l0, l1, l2, l3, l4] st σ else den mX7_apart 18 [l0, l1, l2, l3, l4] st σ) ∧
  (∀ (l0 l1 l2 l3 l4 : Option Value) (st : List Value) (σ : dS), den mX7_apart 16 [l0, l1, l2, l3, l4] st σ = den mX7_apart 17 [l0, l1, l2, l3, l4] (.int ((-1)) :: st) σ) ∧
  (∀ (l0 l1 l2 l3 l4 : Option Value) (v : Int32) (σ : dS), den mX7_apart 17 [l0, l1, l2, l3, l4] [.int v] σ = some (some (.int v), σ)) ∧
  (∀ (l0 l1 l2 l3 l4 : Option Value) (st : List Value) (σ : dS), den mX7_apart 18 [l0, l1, l2, l3, l4] st σ = den mX7_apart 19 [l0, l1, l2, l3, l4] (.int (nI 0) :: st) σ) ∧
  (∀ (l0 l1 l3 l4 : Option Value) (x : Int32) (y : Int32) (st : List Value) (σ : dS), den mX7_apart 19 [l0, l1, some (.int y), l3, l4] (.int x :: st) σ = den mX7_apart 20 [l0, l1, some (.int y), some (.int x), l4] st σ) ∧
  (∀ (l0 l1 l2 l3 l4 : Option Value) (st : List Value) (σ : dS), den mX7_apart 20 [l0, l1, l2, l3, l4] st σ = den mX7_apart 21 [l0, l1, l2, l3, l4] (.int (nI 0) :: st) σ) ∧
  (∀ (l0 l1 l2 l4 : Option Value) (x : Int32) (y : Int32) (st : List Value) (σ : dS), den mX7_apart 21 [l0, l1, l2, some (.int y), l4] (.int x :: st) σ = den mX7_apart 23 [l0, l1, l2, some (.int y), some (.int x)] st σ) ∧
  (∀ (l0 l1 l2 l3 l4 : Option Value) (st : List Value) (σ : dS), den mX7_apart 25 [l0, l1, l2, l3, l4] st σ = den mX7_apart 26 [l0, l1, l2, l3, l4] (.int (nI 1) :: st) σ) ∧
  (∀ (l1 l2 l3 l4 : Option Value) (x : Nat) (st : List Value) (σ : dS), den mX7_apart 26 [some (.ref x), l1, l2, l3, l4] st σ = den mX7_apart 27 [some (.ref x), l1, l2, l3, l4] (.ref x :: st) σ) ∧
  (∀ (l0 l1 l2 l3 l4 : Option Value) (b0 : Int32) (b1 : Int32) (q : Nat) (σ : dS), den mX7_apart 27 [l0, l1, l2, l3, l4] [.ref q, .int b0, .int b1] σ = if disO σ q 6 = true then ((dcall mX7_ifs [.ref q] σ).bind fun r => den mX7_apart 30 [l0, l1, l2, l3, l4] (r.1.toList ++ [.int b0, .int b1]) r.2) else none) ∧
  (∀ (l0 l1 l2 l3 l4 : Option Value) (x y : Int32) (st : List Value) (σ : dS), den mX7_apart 30 [l0, l1, l2, l3, l4] (.int y :: .int x :: st) σ = den mX7_apart 31 [l0, l1, l2, l3, l4] (.int (x <<< (y &&& 31)) :: st) σ) ∧
  (∀ (l0 l1 l2 l3 l4 : Option Value) (x y : Int32) (st : List Value) (σ : dS), den mX7_apart 31 [l0, l1, l2, l3, l4] (.int y :: .int x :: st) σ = if x < y then den mX7_apart 34 [l0, l1, l2, l3, l4] st σ else den mX7_apart 70 [l0, l1, l2, l3, l4] st σ) ∧
  (∀ (l0 l1 l2 l4 : Option Value) (x : Int32) (st : List Value) (σ : dS), den mX7_apart 34 [l0, l1, l2, some (.int x), l4] st σ = den mX7_apart 35 [l0, l1, l2, some (.int x), l4] (.int x :: st) σ) ∧
  (∀ (l0 l1 l2 l3 l4 : Option Value) (x : Int32) (st : List Value) (σ : dS), den mX7_apart 35 [l0, l1, l2, l3, l4] (.int x :: st) σ = if x = 0 then den mX7_apart 38 [l0, l1, l2, l3, l4] st σ else den mX7_apart 58 [l0, l1, l2, l3, l4] st σ) ∧
  (∀ (l1 l2 l3 l4 : Option Value) (x : Nat) (st : List Value) (σ : dS), den mX7_apart 38 [some (.ref x), l1, l2, l3, l4] st σ = den mX7_apart 39 [some (.ref x), l1, l2, l3, l4] (.ref x :: st) σ) ∧
  (∀ (l0 l2 l3 l4 : Option Value) (x : Int32) (st : List Value) (σ : dS), den mX7_apart 39 [l0, some (.int x), l2, l3, l4] st σ = den mX7_apart 40 [l0, some (.int x), l2, l3, l4] (.int x :: st) σ) ∧
  (∀ (l0 l1 l2 l3 : Option Value) (x : Int32) (st : List Value) (σ : dS), den mX7_apart 40 [l0, l1, l2, l3, some (.int x)] st σ = den mX7_apart 42 [l0, l1, l2, l3, some (.int x)] (.int x :: st) σ) ∧
  (∀ (l0 l1 l2 l3 l4 : Option Value) (a0 : Int32) (a1 : Int32) (q : Nat) (σ : dS), den mX7_apart 42 [l0, l1, l2, l3, l4] [.int a1, .int a0, .ref q] σ = if disO σ q 6 = true then ((dcall mX7_holdsBy [.ref q, .int a0, .int a1] σ).bind fun r => den mX7_apart 45 [l0, l1, l2, l3, l4] (r.1.toList ++ []) r.2) else none) ∧
  (∀ (l0 l1 l2 l3 l4 : Option Value) (x : Int32) (st : List Value) (σ : dS), den mX7_apart 45 [l0, l1, l2, l3, l4] (.int x :: st) σ = if x = 0 then den mX7_apart 62 [l0, l1, l2, l3, l4] st σ else den mX7_apart 48 [l0, l1, l2, l3, l4] st σ) ∧
  (∀ (l1 l2 l3 l4 : Option Value) (x : Nat) (st : List Value) (σ : dS), den mX7_apart 48 [some (.ref x), l1, l2, l3, l4] st σ = den mX7_apart 49 [some (.ref x), l1, l2, l3, l4] (.ref x :: st) σ) ∧
  (∀ (l0 l1 l3 l4 : Option Value) (x : Int32) (st : List Value) (σ : dS), den mX7_apart 49 [l0, l1, some (.int x), l3, l4] st σ = den mX7_apart 50 [l0, l1, some (.int x), l3, l4] (.int x :: st) σ) ∧
  (∀ (l0 l1 l2 l3 : Option Value) (x : Int32) (st : List Value) (σ : dS), den mX7_apart 50 [l0, l1, l2, l3, some (.int x)] st σ = den mX7_apart 52 [l0, l1, l2, l3, some (.int x)] (.int x :: st) σ) ∧
  (∀ (l0 l1 l2 l3 l4 : Option Value) (a0 : Int32) (a1 : Int32) (q : Nat) (σ : dS), den mX7_apart 52 [l0, l1, l2, l3, l4] [.int a1, .int a0, .ref q] σ = if disO σ q 6 = true then ((dcall mX7_holdsBy [.ref q, .int a0, .int a1] σ).bind fun r => den mX7_apart 55 [l0, l1, l2, l3, l4] (r.1.toList ++ []) r.2) else none) ∧
  (∀ (l0 l1 l2 l3 l4 : Option Value) (x : Int32) (st : List Value) (σ : dS), den mX7_apart 55 [l0, l1, l2, l3, l4] (.int x :: st) σ = if x = 0 then den mX7_apart 62 [l0, l1, l2, l3, l4] st σ else den mX7_apart 58 [l0, l1, l2, l3, l4] st σ) ∧
  (∀ (l0 l1 l2 l3 l4 : Option Value) (st : List Value) (σ : dS), den mX7_apart 58 [l0, l1, l2, l3, l4] st σ = den mX7_apart 59 [l0, l1, l2, l3, l4] (.int (nI 1) :: st) σ) ∧
  (∀ (l0 l1 l2 l3 l4 : Option Value) (st : List Value) (σ : dS), den mX7_apart 59 [l0, l1, l2, l3, l4] st σ = den mX7_apart 63 [l0, l1, l2, l3, l4] st σ) ∧
  (∀ (l0 l1 l2 l3 l4 : Option Value) (st : List Value) (σ : dS), den mX7_apart 62 [l0, l1, l2, l3, l4] st σ = den mX7_apart 63 [l0, l1, l2, l3, l4] (.int (nI 0) :: st) σ) ∧
  (∀ (l0 l1 l3 l4 : Option Value) (x : Int32) (y : Int32) (st : List Value) (σ : dS), den mX7_apart 63 [l0, l1, some (.int y), l3, l4] (.int x :: st) σ = den mX7_apart 64 [l0, l1, some (.int y), some (.int x), l4] st σ) ∧
  (∀ (l0 l1 l2 : Option Value) (x : Int32) (y : Int32) (st : List Value) (σ : dS), den mX7_apart 64 [l0, l1, l2, some (.int y), some (.int x)] st σ = den mX7_apart 67 [l0, l1, l2, some (.int y), some (.int (x + nI 1))] st σ) ∧
  (∀ (l0 l1 l2 l3 l4 : Option Value) (st : List Value) (σ : dS), den mX7_apart 67 [l0, l1, l2, l3, l4] st σ = den mX7_apart 23 [l0, l1, l2, l3, l4] st σ) ∧
  (∀ (l0 l1 l2 l4 : Option Value) (x : Int32) (st : List Value) (σ : dS), den mX7_apart 70 [l0, l1, l2, some (.int x), l4] st σ = den mX7_apart 71 [l0, l1, l2, some (.int x), l4] (.int x :: st) σ) ∧
  (∀ (l0 l1 l2 l3 l4 : Option Value) (x : Int32) (st : List Value) (σ : dS), den mX7_apart 71 [l0, l1, l2, l3, l4] (.int x :: st) σ = if x = 0 then den mX7_apart 74 [l0, l1, l2, l3, l4] st σ else den mX7_apart 78 [l0, l1, l2, l3, l4] st σ) ∧
  (∀ (l0 l1 l2 l3 l4 : Option Value) (st : List Value) (σ : dS), den mX7_apart 74 [l0, l1, l2, l3, l4] st σ = den mX7_apart 75 [l0, l1, l2, l3, l4] (.int (nI 1) :: st) σ) :=
  ⟨fun l1 l2 l3 l4 x st σ => dn_aload_n eX7_apart dX7_apart_0 rfl,
  fun l0 l2 l3 l4 x st σ => dn_iload_n eX7_apart dX7_apart_1 rfl,
  fun l0 l1 l2 l3 l4 a0 q σ => rX7_apart_2 l0 l1 l2 l3 l4 a0 q σ,
  fun l0 l1 l2 l3 l4 x st σ => dn_if_eq eX7_apart dX7_apart_5 (by decide),
  fun l1 l2 l3 l4 x st σ => dn_aload_n eX7_apart dX7_apart_8 rfl,
  fun l0 l1 l3 l4 x st σ => dn_iload_n eX7_apart dX7_apart_9 rfl,
  fun l0 l1 l2 l3 l4 a0 q σ => rX7_apart_10 l0 l1 l2 l3 l4 a0 q σ,
  fun l0 l1 l2 l3 l4 x st σ => dn_if_ne eX7_apart dX7_apart_13 (by decide),
  fun l0 l1 l2 l3 l4 st σ => dn_iconst eX7_apart dX7_apart_16 kc_iconst_m1,
  fun l0 l1 l2 l3 l4 v σ => dn_ireturn eX7_apart dX7_apart_17 rfl,
  fun l0 l1 l2 l3 l4 st σ => dn_iconst eX7_apart dX7_apart_18 kc_iconst_0,
  fun l0 l1 l3 l4 x y st σ => dn_istore_n eX7_apart dX7_apart_19 rfl,
  fun l0 l1 l2 l3 l4 st σ => dn_iconst eX7_apart dX7_apart_20 kc_iconst_0,
  fun l0 l1 l2 l4 x y st σ => dn_istore eX7_apart dX7_apart_21 rfl,
  fun l0 l1 l2 l3 l4 st σ => dn_iconst eX7_apart dX7_apart_25 kc_iconst_1,
  fun l1 l2 l3 l4 x st σ => dn_aload_n eX7_apart dX7_apart_26 rfl,
  fun l0 l1 l2 l3 l4 b0 b1 q σ => rX7_apart_27 l0 l1 l2 l3 l4 b0 b1 q σ,
  fun l0 l1 l2 l3 l4 x y st σ => dn_ishl eX7_apart dX7_apart_30,
  fun l0 l1 l2 l3 l4 x y st σ => dn_icmp_ge eX7_apart dX7_apart_31 (by decide),
  fun l0 l1 l2 l4 x st σ => dn_iload_n eX7_apart dX7_apart_34 rfl,
  fun l0 l1 l2 l3 l4 x st σ => dn_if_ne eX7_apart dX7_apart_35 (by decide),
  fun l1 l2 l3 l4 x st σ => dn_aload_n eX7_apart dX7_apart_38 rfl,
  fun l0 l2 l3 l4 x st σ => dn_iload_n eX7_apart dX7_apart_39 rfl,
  fun l0 l1 l2 l3 x st σ => dn_iload eX7_apart dX7_apart_40 rfl,
  fun l0 l1 l2 l3 l4 a0 a1 q σ => rX7_apart_42 l0 l1 l2 l3 l4 a0 a1 q σ,
  fun l0 l1 l2 l3 l4 x st σ => dn_if_eq eX7_apart dX7_apart_45 (by decide),
  fun l1 l2 l3 l4 x st σ => dn_aload_n eX7_apart dX7_apart_48 rfl,
  fun l0 l1 l3 l4 x st σ => dn_iload_n eX7_apart dX7_apart_49 rfl,
  fun l0 l1 l2 l3 x st σ => dn_iload eX7_apart dX7_apart_50 rfl,
  fun l0 l1 l2 l3 l4 a0 a1 q σ => rX7_apart_52 l0 l1 l2 l3 l4 a0 a1 q σ,
  fun l0 l1 l2 l3 l4 x st σ => dn_if_eq eX7_apart dX7_apart_55 (by decide),
  fun l0 l1 l2 l3 l4 st σ => dn_iconst eX7_apart dX7_apart_58 kc_iconst_1,
  fun l0 l1 l2 l3 l4 st σ => dn_goto eX7_apart dX7_apart_59 (by decide),
  fun l0 l1 l2 l3 l4 st σ => dn_iconst eX7_apart dX7_apart_62 kc_iconst_0,
  fun l0 l1 l3 l4 x y st σ => dn_istore_n eX7_apart dX7_apart_63 rfl,
  fun l0 l1 l2 x y st σ => dn_iinc (v := nI 1) eX7_apart dX7_apart_64 rfl kc_iconst_1 rfl,
  fun l0 l1 l2 l3 l4 st σ => dn_goto eX7_apart dX7_apart_67 (by decide),
  fun l0 l1 l2 l4 x st σ => dn_iload_n eX7_apart dX7_apart_70 rfl,
  fun l0 l1 l2 l3 l4 x st σ => dn_if_ne eX7_apart dX7_apart_71 (by decide),
  fun l0 l1 l2 l3 l4 st σ => dn_iconst eX7_apart dX7_apart_74 kc_iconst_1⟩
set_option maxRecDepth 20000 in
theorem SX7_apart_1 : (∀ (l0 l1 l2 l3 l4 : Option Value) (st : List Value) (σ : dS), den mX7_apart 75 [l0, l1, l2, l3, l4] st σ = den mX7_apart 79 [l0, l1, l2, l3, l4] st σ) ∧
  (∀ (l0 l1 l2 l3 l4 : Option Value) (st : List Value) (σ : dS), den mX7_apart 78 [l0, l1, l2, l3, l4] st σ = den mX7_apart 79 [l0, l1, l2, l3, l4] (.int (nI 0) :: st) σ) ∧
  (∀ (l0 l1 l2 l3 l4 : Option Value) (a0 : Int32) (σ : dS), den mX7_apart 79 [l0, l1, l2, l3, l4] [.int a0] σ = (dcall mX7_flag [.int a0] σ).bind fun r => den mX7_apart 82 [l0, l1, l2, l3, l4] (r.1.toList ++ []) r.2) ∧
  (∀ (l0 l1 l2 l3 l4 : Option Value) (v : Int32) (σ : dS), den mX7_apart 82 [l0, l1, l2, l3, l4] [.int v] σ = some (some (.int v), σ)) :=
  ⟨fun l0 l1 l2 l3 l4 st σ => dn_goto eX7_apart dX7_apart_75 (by decide),
  fun l0 l1 l2 l3 l4 st σ => dn_iconst eX7_apart dX7_apart_78 kc_iconst_0,
  fun l0 l1 l2 l3 l4 a0 σ => dn_callS (e := (1, 103, 951)) (as := [.int a0]) (rest := []) eX7_apart dX7_apart_79 (by decide +kernel) (Or.inl rfl) (by decide +kernel) rfl (dcat_le rfl) (dlen_le rfl) rfl,
  fun l0 l1 l2 l3 l4 v σ => dn_ireturn eX7_apart dX7_apart_82 rfl⟩
theorem CX7_cover (a0 : Nat) (a1 : Int32) (a2 : Int32) (σ : dS) : dcall mX7_cover [.ref a0, .int a1, .int a2] σ = den mX7_cover 0 [some (.ref a0), some (.int a1), some (.int a2), none, none, none, none, none] [] σ := dcall_den (by decide) rfl
theorem rX7_cover_2 (l0 l1 l2 l3 l4 l5 l6 l7 : Option Value) (b0 : Int32) (q : Nat) (σ : dS) : den mX7_cover 2 [l0, l1, l2, l3, l4, l5, l6, l7] [.ref q, .int b0] σ = if disO σ q 6 = true then ((dcall mX7_ifs [.ref q] σ).bind fun r => den mX7_cover 5 [l0, l1, l2, l3, l4, l5, l6, l7] (r.1.toList ++ [.int b0]) r.2) else none := by
  by_cases h : disO σ q 6 = true
  · rw [if_pos h]; exact dn_callV (e := (0, 122, 943)) (as := []) (rest := [.int b0]) eX7_cover dX7_cover_2 (by decide +kernel) rfl (by decide +kernel) rfl (dcat_le rfl) (dlen_le rfl) rfl h
  · rw [if_neg h]; exact den_noV (e := (0, 122, 943)) (as := []) (rest := [.int b0]) eX7_cover dX7_cover_2 (by decide +kernel) rfl rfl rfl h
theorem rX7_cover_11 (l0 l1 l2 l3 l4 l5 l6 l7 : Option Value) (a0 : Int32) (q : Nat) (σ : dS) : den mX7_cover 11 [l0, l1, l2, l3, l4, l5, l6, l7] [.int a0, .ref q] σ = if disO σ q 6 = true then ((dcall mX7_isGuard [.ref q, .int a0] σ).bind fun r => den mX7_cover 14 [l0, l1, l2, l3, l4, l5, l6, l7] (r.1.toList ++ []) r.2) else none := by
  by_cases h : disO σ q 6 = true
  · rw [if_pos h]; exact dn_callV (e := (0, 126, 1016)) (as := [.int a0]) (rest := []) eX7_cover dX7_cover_11 (by decide +kernel) rfl (by decide +kernel) rfl (dcat_le rfl) (dlen_le rfl) rfl h
  · rw [if_neg h]; exact den_noV (e := (0, 126, 1016)) (as := [.int a0]) (rest := []) eX7_cover dX7_cover_11 (by decide +kernel) rfl rfl rfl h
theorem hX7_cover_40 (l0 l1 l2 l3 l4 l6 l7 : Option Value) (x : Int32) (st : List Value) (σ : dS) : den mX7_cover 40 [l0, l1, l2, l3, l4, some (.int x), l6, l7] st σ = den mX7_cover 42 [l0, l1, l2, l3, l4, some (.int x), l6, l7] (.int x :: st) σ := dn_iload eX7_cover dX7_cover_40 rfl
theorem rX7_cover_44 (l0 l1 l2 l3 l4 l5 l6 l7 : Option Value) (b0 : Int32) (b1 : Int32) (q : Nat) (σ : dS) : den mX7_cover 44 [l0, l1, l2, l3, l4, l5, l6, l7] [.ref q, .int b0, .int b1] σ = if disO σ q 6 = true then ((dcall mX7_ifs [.ref q] σ).bind fun r => den mX7_cover 47 [l0, l1, l2, l3, l4, l5, l6, l7] (r.1.toList ++ [.int b0, .int b1]) r.2) else none := by
  by_cases h : disO σ q 6 = true
  · rw [if_pos h]; exact dn_callV (e := (0, 122, 943)) (as := []) (rest := [.int b0, .int b1]) eX7_cover dX7_cover_44 (by decide +kernel) rfl (by decide +kernel) rfl (dcat_le rfl) (dlen_le rfl) rfl h
  · rw [if_neg h]; exact den_noV (e := (0, 122, 943)) (as := []) (rest := [.int b0, .int b1]) eX7_cover dX7_cover_44 (by decide +kernel) rfl rfl rfl h
theorem hX7_cover_57 (l0 l1 l2 l3 l4 l5 l6 : Option Value) (x : Int32) (st : List Value) (σ : dS) : den mX7_cover 57 [l0, l1, l2, l3, l4, l5, l6, some (.int x)] st σ = den mX7_cover 59 [l0, l1, l2, l3, l4, l5, l6, some (.int x)] (.int x :: st) σ := dn_iload eX7_cover dX7_cover_57 rfl
theorem rX7_cover_83 (l0 l1 l2 l3 l4 l5 l6 l7 : Option Value) (a0 : Int32) (a1 : Int32) (q : Nat) (σ : dS) : den mX7_cover 83 [l0, l1, l2, l3, l4, l5, l6, l7] [.int a1, .int a0, .ref q] σ = if disO σ q 6 = true then ((dcall mX7_holdsBy [.ref q, .int a0, .int a1] σ).bind fun r => den mX7_cover 86 [l0, l1, l2, l3, l4, l5, l6, l7] (r.1.toList ++ []) r.2) else none := by
  by_cases h : disO σ q 6 = true
  · rw [if_pos h]; exact dn_callV (e := (0, 143, 1032)) (as := [.int a0, .int a1]) (rest := []) eX7_cover dX7_cover_83 (by decide +kernel) rfl (by decide +kernel) rfl (dcat_le rfl) (dlen_le rfl) rfl h
  · rw [if_neg h]; exact den_noV (e := (0, 143, 1032)) (as := [.int a0, .int a1]) (rest := []) eX7_cover dX7_cover_83 (by decide +kernel) rfl rfl rfl h
theorem rX7_cover_116 (l0 l1 l2 l3 l4 l5 l6 l7 : Option Value) (a0 : Int32) (a1 : Int32) (q : Nat) (σ : dS) : den mX7_cover 116 [l0, l1, l2, l3, l4, l5, l6, l7] [.int a1, .int a0, .ref q] σ = if disO σ q 6 = true then ((dcall mX7_holdsBy [.ref q, .int a0, .int a1] σ).bind fun r => den mX7_cover 119 [l0, l1, l2, l3, l4, l5, l6, l7] (r.1.toList ++ []) r.2) else none := by
  by_cases h : disO σ q 6 = true
  · rw [if_pos h]; exact dn_callV (e := (0, 143, 1032)) (as := [.int a0, .int a1]) (rest := []) eX7_cover dX7_cover_116 (by decide +kernel) rfl (by decide +kernel) rfl (dcat_le rfl) (dlen_le rfl) rfl h
  · rw [if_neg h]; exact den_noV (e := (0, 143, 1032)) (as := [.int a0, .int a1]) (rest := []) eX7_cover dX7_cover_116 (by decide +kernel) rfl rfl rfl h
set_option maxRecDepth 20000 in
theorem SX7_cover_0 : (∀ (l0 l1 l2 l3 l4 l5 l6 l7 : Option Value) (st : List Value) (σ : dS), den mX7_cover 0 [l0, l1, l2, l3, l4, l5, l6, l7] st σ = den mX7_cover 1 [l0, l1, l2, l3, l4, l5, l6, l7] (.int (nI 2) :: st) σ) ∧
  (∀ (l1 l2 l3 l4 l5 l6 l7 : Option Value) (x : Nat) (st : List Value) (σ : dS), den mX7_cover 1 [some (.ref x), l1, l2, l3, l4, l5, l6, l7] st σ = den mX7_cover 2 [some (.ref x), l1, l2, l3, l4, l5, l6, l7] (.ref x :: st) σ) ∧
  (∀ (l0 l1 l2 l3 l4 l5 l6 l7 : Option Value) (b0 : Int32) (q : Nat) (σ : dS), den mX7_cover 2 [l0, l1, l2, l3, l4, l5, l6, l7] [.ref q, .int b0] σ = if disO σ q 6 = true then ((dcall mX7_ifs [.ref q] σ).bind fun r => den mX7_cover 5 [l0, l1, l2, l3, l4, l5, l6, l7] (r.1.toList ++ [.int b0]) r.2) else none) ∧
  (∀ (l0 l1 l2 l3 l4 l5 l6 l7 : Option Value) (x y : Int32) (st : List Value) (σ : dS), den mX7_cover 5 [l0, l1, l2, l3, l4, l5, l6, l7] (.int y :: .int x :: st) σ = den mX7_cover 6 [l0, l1, l2, l3, l4, l5, l6, l7] (.int (x * y) :: st) σ) ∧
  (∀ (l0 l1 l2 l3 l4 l5 l6 l7 : Option Value) (st : List Value) (σ : dS), den mX7_cover 6 [l0, l1, l2, l3, l4, l5, l6, l7] st σ = den mX7_cover 7 [l0, l1, l2, l3, l4, l5, l6, l7] (.int (nI 1) :: st) σ) ∧
  (∀ (l0 l1 l2 l3 l4 l5 l6 l7 : Option Value) (x y : Int32) (st : List Value) (σ : dS), den mX7_cover 7 [l0, l1, l2, l3, l4, l5, l6, l7] (.int y :: .int x :: st) σ = den mX7_cover 8 [l0, l1, l2, l3, l4, l5, l6, l7] (.int (x + y) :: st) σ) ∧
  (∀ (l0 l1 l3 l4 l5 l6 l7 : Option Value) (x : Int32) (y : Int32) (st : List Value) (σ : dS), den mX7_cover 8 [l0, l1, some (.int y), l3, l4, l5, l6, l7] (.int x :: st) σ = den mX7_cover 9 [l0, l1, some (.int y), some (.int x), l4, l5, l6, l7] st σ) ∧
  (∀ (l1 l2 l3 l4 l5 l6 l7 : Option Value) (x : Nat) (st : List Value) (σ : dS), den mX7_cover 9 [some (.ref x), l1, l2, l3, l4, l5, l6, l7] st σ = den mX7_cover 10 [some (.ref x), l1, l2, l3, l4, l5, l6, l7] (.ref x :: st) σ) ∧
  (∀ (l0 l2 l3 l4 l5 l6 l7 : Option Value) (x : Int32) (st : List Value) (σ : dS), den mX7_cover 10 [l0, some (.int x), l2, l3, l4, l5, l6, l7] st σ = den mX7_cover 11 [l0, some (.int x), l2, l3, l4, l5, l6, l7] (.int x :: st) σ) ∧
  (∀ (l0 l1 l2 l3 l4 l5 l6 l7 : Option Value) (a0 : Int32) (q : Nat) (σ : dS), den mX7_cover 11 [l0, l1, l2, l3, l4, l5, l6, l7] [.int a0, .ref q] σ = if disO σ q 6 = true then ((dcall mX7_isGuard [.ref q, .int a0] σ).bind fun r => den mX7_cover 14 [l0, l1, l2, l3, l4, l5, l6, l7] (r.1.toList ++ []) r.2) else none) ∧
  (∀ (l0 l1 l2 l3 l4 l5 l6 l7 : Option Value) (x : Int32) (st : List Value) (σ : dS), den mX7_cover 14 [l0, l1, l2, l3, l4, l5, l6, l7] (.int x :: st) σ = if x = 0 then den mX7_cover 32 [l0, l1, l2, l3, l4, l5, l6, l7] st σ else den mX7_cover 17 [l0, l1, l2, l3, l4, l5, l6, l7] st σ) ∧
  (∀ (l0 l1 l3 l4 l5 l6 l7 : Option Value) (x : Int32) (st : List Value) (σ : dS), den mX7_cover 17 [l0, l1, some (.int x), l3, l4, l5, l6, l7] st σ = den mX7_cover 18 [l0, l1, some (.int x), l3, l4, l5, l6, l7] (.int x :: st) σ) ∧
  (∀ (l0 l1 l2 l3 l4 l5 l6 l7 : Option Value) (x : Int32) (st : List Value) (σ : dS), den mX7_cover 18 [l0, l1, l2, l3, l4, l5, l6, l7] (.int x :: st) σ = den mX7_cover 19 [l0, l1, l2, l3, l4, l5, l6, l7] (.long x.toInt64 :: st) σ) ∧
  (∀ (l0 l1 l2 l3 l4 l5 l6 l7 : Option Value) (st : List Value) (σ : dS), den mX7_cover 19 [l0, l1, l2, l3, l4, l5, l6, l7] st σ = den mX7_cover 20 [l0, l1, l2, l3, l4, l5, l6, l7] (.long (lN 0) :: st) σ) ∧
  (∀ (l0 l1 l2 l3 l4 l5 l6 l7 : Option Value) (st : List Value) (σ : dS), den mX7_cover 20 [l0, l1, l2, l3, l4, l5, l6, l7] st σ = den mX7_cover 21 [l0, l1, l2, l3, l4, l5, l6, l7] (.int (nI 1) :: st) σ) ∧
  (∀ (l0 l1 l2 l4 l5 l6 l7 : Option Value) (x : Int32) (st : List Value) (σ : dS), den mX7_cover 21 [l0, l1, l2, some (.int x), l4, l5, l6, l7] st σ = den mX7_cover 22 [l0, l1, l2, some (.int x), l4, l5, l6, l7] (.int x :: st) σ) ∧
  (∀ (l0 l1 l2 l3 l4 l5 l6 l7 : Option Value) (x y : Int32) (st : List Value) (σ : dS), den mX7_cover 22 [l0, l1, l2, l3, l4, l5, l6, l7] (.int y :: .int x :: st) σ = den mX7_cover 23 [l0, l1, l2, l3, l4, l5, l6, l7] (.int (x <<< (y &&& 31)) :: st) σ) ∧
  (∀ (l0 l1 l2 l3 l4 l5 l6 l7 : Option Value) (st : List Value) (σ : dS), den mX7_cover 23 [l0, l1, l2, l3, l4, l5, l6, l7] st σ = den mX7_cover 24 [l0, l1, l2, l3, l4, l5, l6, l7] (.int (nI 1) :: st) σ) ∧
  (∀ (l0 l1 l2 l3 l4 l5 l6 l7 : Option Value) (x y : Int32) (st : List Value) (σ : dS), den mX7_cover 24 [l0, l1, l2, l3, l4, l5, l6, l7] (.int y :: .int x :: st) σ = den mX7_cover 25 [l0, l1, l2, l3, l4, l5, l6, l7] (.int (x - y) :: st) σ) ∧
  (∀ (l0 l1 l2 l3 l4 l5 l6 l7 : Option Value) (x : Int32) (st : List Value) (σ : dS), den mX7_cover 25 [l0, l1, l2, l3, l4, l5, l6, l7] (.int x :: st) σ = den mX7_cover 26 [l0, l1, l2, l3, l4, l5, l6, l7] (.long x.toInt64 :: st) σ) ∧
  (∀ (l0 l1 l2 l3 l4 l5 l6 l7 : Option Value) (a0 : Int64) (a1 : Int64) (a2 : Int64) (σ : dS), den mX7_cover 26 [l0, l1, l2, l3, l4, l5, l6, l7] [.long a2, .long a1, .long a0] σ = (dcall mX7_in [.long a0, .long a1, .long a2] σ).bind fun r => den mX7_cover 29 [l0, l1, l2, l3, l4, l5, l6, l7] (r.1.toList ++ []) r.2) ∧
  (∀ (l0 l1 l2 l3 l4 l5 l6 l7 : Option Value) (x : Int32) (st : List Value) (σ : dS), den mX7_cover 29 [l0, l1, l2, l3, l4, l5, l6, l7] (.int x :: st) σ = if x = 0 then den mX7_cover 32 [l0, l1, l2, l3, l4, l5, l6, l7] st σ else den mX7_cover 34 [l0, l1, l2, l3, l4, l5, l6, l7] st σ) ∧
  (∀ (l0 l1 l2 l3 l4 l5 l6 l7 : Option Value) (st : List Value) (σ : dS), den mX7_cover 32 [l0, l1, l2, l3, l4, l5, l6, l7] st σ = den mX7_cover 33 [l0, l1, l2, l3, l4, l5, l6, l7] (.int ((-1)) :: st) σ) ∧
  (∀ (l0 l1 l2 l3 l4 l5 l6 l7 : Option Value) (v : Int32) (σ : dS), den mX7_cover 33 [l0, l1, l2, l3, l4, l5, l6, l7] [.int v] σ = some (some (.int v), σ)) ∧
  (∀ (l0 l1 l2 l3 l4 l5 l6 l7 : Option Value) (st : List Value) (σ : dS), den mX7_cover 34 [l0, l1, l2, l3, l4, l5, l6, l7] st σ = den mX7_cover 35 [l0, l1, l2, l3, l4, l5, l6, l7] (.int (nI 1) :: st) σ) ∧
  (∀ (l0 l1 l2 l4 l5 l6 l7 : Option Value) (x : Int32) (y : Int32) (st : List Value) (σ : dS), den mX7_cover 35 [l0, l1, l2, some (.int y), l4, l5, l6, l7] (.int x :: st) σ = den mX7_cover 37 [l0, l1, l2, some (.int y), some (.int x), l5, l6, l7] st σ) ∧
  (∀ (l0 l1 l2 l3 l4 l5 l6 l7 : Option Value) (st : List Value) (σ : dS), den mX7_cover 37 [l0, l1, l2, l3, l4, l5, l6, l7] st σ = den mX7_cover 38 [l0, l1, l2, l3, l4, l5, l6, l7] (.int (nI 0) :: st) σ) ∧
  (∀ (l0 l1 l2 l3 l5 l6 l7 : Option Value) (x : Int32) (y : Int32) (st : List Value) (σ : dS), den mX7_cover 38 [l0, l1, l2, l3, some (.int y), l5, l6, l7] (.int x :: st) σ = den mX7_cover 40 [l0, l1, l2, l3, some (.int y), some (.int x), l6, l7] st σ) ∧
  (∀ (l0 l1 l2 l3 l4 l5 l6 l7 : Option Value) (st : List Value) (σ : dS), den mX7_cover 42 [l0, l1, l2, l3, l4, l5, l6, l7] st σ = den mX7_cover 43 [l0, l1, l2, l3, l4, l5, l6, l7] (.int (nI 1) :: st) σ) ∧
  (∀ (l1 l2 l3 l4 l5 l6 l7 : Option Value) (x : Nat) (st : List Value) (σ : dS), den mX7_cover 43 [some (.ref x), l1, l2, l3, l4, l5, l6, l7] st σ = den mX7_cover 44 [some (.ref x), l1, l2, l3, l4, l5, l6, l7] (.ref x :: st) σ) ∧
  (∀ (l0 l1 l2 l3 l4 l5 l6 l7 : Option Value) (b0 : Int32) (b1 : Int32) (q : Nat) (σ : dS), den mX7_cover 44 [l0, l1, l2, l3, l4, l5, l6, l7] [.ref q, .int b0, .int b1] σ = if disO σ q 6 = true then ((dcall mX7_ifs [.ref q] σ).bind fun r => den mX7_cover 47 [l0, l1, l2, l3, l4, l5, l6, l7] (r.1.toList ++ [.int b0, .int b1]) r.2) else none) ∧
  (∀ (l0 l1 l2 l3 l4 l5 l6 l7 : Option Value) (x y : Int32) (st : List Value) (σ : dS), den mX7_cover 47 [l0, l1, l2, l3, l4, l5, l6, l7] (.int y :: .int x :: st) σ = den mX7_cover 48 [l0, l1, l2, l3, l4, l5, l6, l7] (.int (x <<< (y &&& 31)) :: st) σ) ∧
  (∀ (l0 l1 l2 l3 l4 l5 l6 l7 : Option Value) (x y : Int32) (st : List Value) (σ : dS), den mX7_cover 48 [l0, l1, l2, l3, l4, l5, l6, l7] (.int y :: .int x :: st) σ = if x < y then den mX7_cover 51 [l0, l1, l2, l3, l4, l5, l6, l7] st σ else den mX7_cover 135 [l0, l1, l2, l3, l4, l5, l6, l7] st σ) ∧
  (∀ (l0 l1 l2 l3 l4 l5 l6 l7 : Option Value) (st : List Value) (σ : dS), den mX7_cover 51 [l0, l1, l2, l3, l4, l5, l6, l7] st σ = den mX7_cover 52 [l0, l1, l2, l3, l4, l5, l6, l7] (.int (nI 0) :: st) σ) ∧
  (∀ (l0 l1 l2 l3 l4 l6 l7 : Option Value) (x : Int32) (y : Int32) (st : List Value) (σ : dS), den mX7_cover 52 [l0, l1, l2, l3, l4, some (.int y), l6, l7] (.int x :: st) σ = den mX7_cover 54 [l0, l1, l2, l3, l4, some (.int y), some (.int x), l7] st σ) ∧
  (∀ (l0 l1 l2 l3 l4 l5 l6 l7 : Option Value) (st : List Value) (σ : dS), den mX7_cover 54 [l0, l1, l2, l3, l4, l5, l6, l7] st σ = den mX7_cover 55 [l0, l1, l2, l3, l4, l5, l6, l7] (.int (nI 0) :: st) σ) ∧
  (∀ (l0 l1 l2 l3 l4 l5 l7 : Option Value) (x : Int32) (y : Int32) (st : List Value) (σ : dS), den mX7_cover 55 [l0, l1, l2, l3, l4, l5, some (.int y), l7] (.int x :: st) σ = den mX7_cover 57 [l0, l1, l2, l3, l4, l5, some (.int y), some (.int x)] st σ) ∧
  (∀ (l0 l1 l2 l4 l5 l6 l7 : Option Value) (x : Int32) (st : List Value) (σ : dS), den mX7_cover 59 [l0, l1, l2, some (.int x), l4, l5, l6, l7] st σ = den mX7_cover 60 [l0, l1, l2, some (.int x), l4, l5, l6, l7] (.int x :: st) σ) ∧
  (∀ (l0 l1 l2 l3 l4 l5 l6 l7 : Option Value) (x y : Int32) (st : List Value) (σ : dS), den mX7_cover 60 [l0, l1, l2, l3, l4, l5, l6, l7] (.int y :: .int x :: st) σ = if x < y then den mX7_cover 63 [l0, l1, l2, l3, l4, l5, l6, l7] st σ else den mX7_cover 102 [l0, l1, l2, l3, l4, l5, l6, l7] st σ) ∧
  (∀ (l0 l1 l2 l3 l4 l5 l7 : Option Value) (x : Int32) (st : List Value) (σ : dS), den mX7_cover 63 [l0, l1, l2, l3, l4, l5, some (.int x), l7] st σ = den mX7_cover 65 [l0, l1, l2, l3, l4, l5, some (.int x), l7] (.int x :: st) σ) :=
  ⟨fun l0 l1 l2 l3 l4 l5 l6 l7 st σ => dn_iconst eX7_cover dX7_cover_0 kc_iconst_2,
  fun l1 l2 l3 l4 l5 l6 l7 x st σ => dn_aload_n eX7_cover dX7_cover_1 rfl,
  fun l0 l1 l2 l3 l4 l5 l6 l7 b0 q σ => rX7_cover_2 l0 l1 l2 l3 l4 l5 l6 l7 b0 q σ,
  fun l0 l1 l2 l3 l4 l5 l6 l7 x y st σ => dn_imul eX7_cover dX7_cover_5,
  fun l0 l1 l2 l3 l4 l5 l6 l7 st σ => dn_iconst eX7_cover dX7_cover_6 kc_iconst_1,
  fun l0 l1 l2 l3 l4 l5 l6 l7 x y st σ => dn_iadd eX7_cover dX7_cover_7,
  fun l0 l1 l3 l4 l5 l6 l7 x y st σ => dn_istore_n eX7_cover dX7_cover_8 rfl,
  fun l1 l2 l3 l4 l5 l6 l7 x st σ => dn_aload_n eX7_cover dX7_cover_9 rfl,
  fun l0 l2 l3 l4 l5 l6 l7 x st σ => dn_iload_n eX7_cover dX7_cover_10 rfl,
  fun l0 l1 l2 l3 l4 l5 l6 l7 a0 q σ => rX7_cover_11 l0 l1 l2 l3 l4 l5 l6 l7 a0 q σ,
  fun l0 l1 l2 l3 l4 l5 l6 l7 x st σ => dn_if_eq eX7_cover dX7_cover_14 (by decide),
  fun l0 l1 l3 l4 l5 l6 l7 x st σ => dn_iload_n eX7_cover dX7_cover_17 rfl,
  fun l0 l1 l2 l3 l4 l5 l6 l7 x st σ => dn_i2l eX7_cover dX7_cover_18,
  fun l0 l1 l2 l3 l4 l5 l6 l7 st σ => dn_lconst eX7_cover dX7_cover_19 kc_lconst_0,
  fun l0 l1 l2 l3 l4 l5 l6 l7 st σ => dn_iconst eX7_cover dX7_cover_20 kc_iconst_1,
  fun l0 l1 l2 l4 l5 l6 l7 x st σ => dn_iload_n eX7_cover dX7_cover_21 rfl,
  fun l0 l1 l2 l3 l4 l5 l6 l7 x y st σ => dn_ishl eX7_cover dX7_cover_22,
  fun l0 l1 l2 l3 l4 l5 l6 l7 st σ => dn_iconst eX7_cover dX7_cover_23 kc_iconst_1,
  fun l0 l1 l2 l3 l4 l5 l6 l7 x y st σ => dn_isub eX7_cover dX7_cover_24,
  fun l0 l1 l2 l3 l4 l5 l6 l7 x st σ => dn_i2l eX7_cover dX7_cover_25,
  fun l0 l1 l2 l3 l4 l5 l6 l7 a0 a1 a2 σ => dn_callS (e := (1, 102, 879)) (as := [.long a0, .long a1, .long a2]) (rest := []) eX7_cover dX7_cover_26 (by decide +kernel) (Or.inl rfl) (by decide +kernel) rfl (dcat_le rfl) (dlen_le rfl) rfl,
  fun l0 l1 l2 l3 l4 l5 l6 l7 x st σ => dn_if_ne eX7_cover dX7_cover_29 (by decide),
  fun l0 l1 l2 l3 l4 l5 l6 l7 st σ => dn_iconst eX7_cover dX7_cover_32 kc_iconst_m1,
  fun l0 l1 l2 l3 l4 l5 l6 l7 v σ => dn_ireturn eX7_cover dX7_cover_33 rfl,
  fun l0 l1 l2 l3 l4 l5 l6 l7 st σ => dn_iconst eX7_cover dX7_cover_34 kc_iconst_1,
  fun l0 l1 l2 l4 l5 l6 l7 x y st σ => dn_istore eX7_cover dX7_cover_35 rfl,
  fun l0 l1 l2 l3 l4 l5 l6 l7 st σ => dn_iconst eX7_cover dX7_cover_37 kc_iconst_0,
  fun l0 l1 l2 l3 l5 l6 l7 x y st σ => dn_istore eX7_cover dX7_cover_38 rfl,
  fun l0 l1 l2 l3 l4 l5 l6 l7 st σ => dn_iconst eX7_cover dX7_cover_42 kc_iconst_1,
  fun l1 l2 l3 l4 l5 l6 l7 x st σ => dn_aload_n eX7_cover dX7_cover_43 rfl,
  fun l0 l1 l2 l3 l4 l5 l6 l7 b0 b1 q σ => rX7_cover_44 l0 l1 l2 l3 l4 l5 l6 l7 b0 b1 q σ,
  fun l0 l1 l2 l3 l4 l5 l6 l7 x y st σ => dn_ishl eX7_cover dX7_cover_47,
  fun l0 l1 l2 l3 l4 l5 l6 l7 x y st σ => dn_icmp_ge eX7_cover dX7_cover_48 (by decide),
  fun l0 l1 l2 l3 l4 l5 l6 l7 st σ => dn_iconst eX7_cover dX7_cover_51 kc_iconst_0,
  fun l0 l1 l2 l3 l4 l6 l7 x y st σ => dn_istore eX7_cover dX7_cover_52 rfl,
  fun l0 l1 l2 l3 l4 l5 l6 l7 st σ => dn_iconst eX7_cover dX7_cover_54 kc_iconst_0,
  fun l0 l1 l2 l3 l4 l5 l7 x y st σ => dn_istore eX7_cover dX7_cover_55 rfl,
  fun l0 l1 l2 l4 l5 l6 l7 x st σ => dn_iload_n eX7_cover dX7_cover_59 rfl,
  fun l0 l1 l2 l3 l4 l5 l6 l7 x y st σ => dn_icmp_ge eX7_cover dX7_cover_60 (by decide),
  fun l0 l1 l2 l3 l4 l5 l7 x st σ => dn_iload eX7_cover dX7_cover_63 rfl⟩
set_option maxRecDepth 20000 in
theorem SX7_cover_1 : (∀ (l0 l1 l2 l3 l4 l5 l6 l7 : Option Value) (x : Int32) (st : List Value) (σ : dS), den mX7_cover 65 [l0, l1, l2, l3, l4, l5, l6, l7] (.int x :: st) σ = if x = 0 then den mX7_cover 68 [l0, l1, l2, l3, l4, l5, l6, l7] st σ else den mX7_cover 89 [l0, l1, l2, l3, l4, l5, l6, l7] st σ) ∧
  (∀ (l0 l1 l3 l4 l5 l6 l7 : Option Value) (x : Int32) (st : List Value) (σ : dS), den mX7_cover 68 [l0, l1, some (.int x), l3, l4, l5, l6, l7] st σ = den mX7_cover 69 [l0, l1, some (.int x), l3, l4, l5, l6, l7] (.int x :: st) σ) ∧
  (∀ (l0 l1 l2 l3 l4 l5 l6 : Option Value) (x : Int32) (st : List Value) (σ : dS), den mX7_cover 69 [l0, l1, l2, l3, l4, l5, l6, some (.int x)] st σ = den mX7_cover 71 [l0, l1, l2, l3, l4, l5, l6, some (.int x)] (.int x :: st) σ) ∧
  (∀ (l0 l1 l2 l3 l4 l5 l6 l7 : Option Value) (x y : Int32) (st : List Value) (σ : dS), den mX7_cover 71 [l0, l1, l2, l3, l4, l5, l6, l7] (.int y :: .int x :: st) σ = den mX7_cover 72 [l0, l1, l2, l3, l4, l5, l6, l7] (.int (x >>> (y &&& 31)) :: st) σ) ∧
  (∀ (l0 l1 l2 l3 l4 l5 l6 l7 : Option Value) (st : List Value) (σ : dS), den mX7_cover 72 [l0, l1, l2, l3, l4, l5, l6, l7] st σ = den mX7_cover 73 [l0, l1, l2, l3, l4, l5, l6, l7] (.int (nI 1) :: st) σ) ∧
  (∀ (l0 l1 l2 l3 l4 l5 l6 l7 : Option Value) (x y : Int32) (st : List Value) (σ : dS), den mX7_cover 73 [l0, l1, l2, l3, l4, l5, l6, l7] (.int y :: .int x :: st) σ = den mX7_cover 74 [l0, l1, l2, l3, l4, l5, l6, l7] (.int (x &&& y) :: st) σ) ∧
  (∀ (l0 l1 l2 l3 l4 l5 l6 l7 : Option Value) (st : List Value) (σ : dS), den mX7_cover 74 [l0, l1, l2, l3, l4, l5, l6, l7] st σ = den mX7_cover 75 [l0, l1, l2, l3, l4, l5, l6, l7] (.int (nI 1) :: st) σ) ∧
  (∀ (l0 l1 l2 l3 l4 l5 l6 l7 : Option Value) (x y : Int32) (st : List Value) (σ : dS), den mX7_cover 75 [l0, l1, l2, l3, l4, l5, l6, l7] (.int y :: .int x :: st) σ = if x = y then den mX7_cover 78 [l0, l1, l2, l3, l4, l5, l6, l7] st σ else den mX7_cover 93 [l0, l1, l2, l3, l4, l5, l6, l7] st σ) ∧
  (∀ (l1 l2 l3 l4 l5 l6 l7 : Option Value) (x : Nat) (st : List Value) (σ : dS), den mX7_cover 78 [some (.ref x), l1, l2, l3, l4, l5, l6, l7] st σ = den mX7_cover 79 [some (.ref x), l1, l2, l3, l4, l5, l6, l7] (.ref x :: st) σ) ∧
  (∀ (l0 l1 l2 l3 l4 l5 l6 : Option Value) (x : Int32) (st : List Value) (σ : dS), den mX7_cover 79 [l0, l1, l2, l3, l4, l5, l6, some (.int x)] st σ = den mX7_cover 81 [l0, l1, l2, l3, l4, l5, l6, some (.int x)] (.int x :: st) σ) ∧
  (∀ (l0 l1 l2 l3 l4 l6 l7 : Option Value) (x : Int32) (st : List Value) (σ : dS), den mX7_cover 81 [l0, l1, l2, l3, l4, some (.int x), l6, l7] st σ = den mX7_cover 83 [l0, l1, l2, l3, l4, some (.int x), l6, l7] (.int x :: st) σ) ∧
  (∀ (l0 l1 l2 l3 l4 l5 l6 l7 : Option Value) (a0 : Int32) (a1 : Int32) (q : Nat) (σ : dS), den mX7_cover 83 [l0, l1, l2, l3, l4, l5, l6, l7] [.int a1, .int a0, .ref q] σ = if disO σ q 6 = true then ((dcall mX7_holdsBy [.ref q, .int a0, .int a1] σ).bind fun r => den mX7_cover 86 [l0, l1, l2, l3, l4, l5, l6, l7] (r.1.toList ++ []) r.2) else none) ∧
  (∀ (l0 l1 l2 l3 l4 l5 l6 l7 : Option Value) (x : Int32) (st : List Value) (σ : dS), den mX7_cover 86 [l0, l1, l2, l3, l4, l5, l6, l7] (.int x :: st) σ = if x = 0 then den mX7_cover 93 [l0, l1, l2, l3, l4, l5, l6, l7] st σ else den mX7_cover 89 [l0, l1, l2, l3, l4, l5, l6, l7] st σ) ∧
  (∀ (l0 l1 l2 l3 l4 l5 l6 l7 : Option Value) (st : List Value) (σ : dS), den mX7_cover 89 [l0, l1, l2, l3, l4, l5, l6, l7] st σ = den mX7_cover 90 [l0, l1, l2, l3, l4, l5, l6, l7] (.int (nI 1) :: st) σ) ∧
  (∀ (l0 l1 l2 l3 l4 l5 l6 l7 : Option Value) (st : List Value) (σ : dS), den mX7_cover 90 [l0, l1, l2, l3, l4, l5, l6, l7] st σ = den mX7_cover 94 [l0, l1, l2, l3, l4, l5, l6, l7] st σ) ∧
  (∀ (l0 l1 l2 l3 l4 l5 l6 l7 : Option Value) (st : List Value) (σ : dS), den mX7_cover 93 [l0, l1, l2, l3, l4, l5, l6, l7] st σ = den mX7_cover 94 [l0, l1, l2, l3, l4, l5, l6, l7] (.int (nI 0) :: st) σ) ∧
  (∀ (l0 l1 l2 l3 l4 l6 l7 : Option Value) (x : Int32) (y : Int32) (st : List Value) (σ : dS), den mX7_cover 94 [l0, l1, l2, l3, l4, some (.int y), l6, l7] (.int x :: st) σ = den mX7_cover 96 [l0, l1, l2, l3, l4, some (.int y), some (.int x), l7] st σ) ∧
  (∀ (l0 l1 l2 l3 l4 l5 : Option Value) (x : Int32) (y : Int32) (st : List Value) (σ : dS), den mX7_cover 96 [l0, l1, l2, l3, l4, l5, some (.int y), some (.int x)] st σ = den mX7_cover 99 [l0, l1, l2, l3, l4, l5, some (.int y), some (.int (x + nI 1))] st σ) ∧
  (∀ (l0 l1 l2 l3 l4 l5 l6 l7 : Option Value) (st : List Value) (σ : dS), den mX7_cover 99 [l0, l1, l2, l3, l4, l5, l6, l7] st σ = den mX7_cover 57 [l0, l1, l2, l3, l4, l5, l6, l7] st σ) ∧
  (∀ (l0 l1 l2 l3 l5 l6 l7 : Option Value) (x : Int32) (st : List Value) (σ : dS), den mX7_cover 102 [l0, l1, l2, l3, some (.int x), l5, l6, l7] st σ = den mX7_cover 104 [l0, l1, l2, l3, some (.int x), l5, l6, l7] (.int x :: st) σ) ∧
  (∀ (l0 l1 l2 l3 l4 l5 l6 l7 : Option Value) (x : Int32) (st : List Value) (σ : dS), den mX7_cover 104 [l0, l1, l2, l3, l4, l5, l6, l7] (.int x :: st) σ = if x = 0 then den mX7_cover 126 [l0, l1, l2, l3, l4, l5, l6, l7] st σ else den mX7_cover 107 [l0, l1, l2, l3, l4, l5, l6, l7] st σ) ∧
  (∀ (l0 l1 l2 l3 l4 l5 l7 : Option Value) (x : Int32) (st : List Value) (σ : dS), den mX7_cover 107 [l0, l1, l2, l3, l4, l5, some (.int x), l7] st σ = den mX7_cover 109 [l0, l1, l2, l3, l4, l5, some (.int x), l7] (.int x :: st) σ) ∧
  (∀ (l0 l1 l2 l3 l4 l5 l6 l7 : Option Value) (x : Int32) (st : List Value) (σ : dS), den mX7_cover 109 [l0, l1, l2, l3, l4, l5, l6, l7] (.int x :: st) σ = if x = 0 then den mX7_cover 112 [l0, l1, l2, l3, l4, l5, l6, l7] st σ else den mX7_cover 122 [l0, l1, l2, l3, l4, l5, l6, l7] st σ) ∧
  (∀ (l1 l2 l3 l4 l5 l6 l7 : Option Value) (x : Nat) (st : List Value) (σ : dS), den mX7_cover 112 [some (.ref x), l1, l2, l3, l4, l5, l6, l7] st σ = den mX7_cover 113 [some (.ref x), l1, l2, l3, l4, l5, l6, l7] (.ref x :: st) σ) ∧
  (∀ (l0 l2 l3 l4 l5 l6 l7 : Option Value) (x : Int32) (st : List Value) (σ : dS), den mX7_cover 113 [l0, some (.int x), l2, l3, l4, l5, l6, l7] st σ = den mX7_cover 114 [l0, some (.int x), l2, l3, l4, l5, l6, l7] (.int x :: st) σ) ∧
  (∀ (l0 l1 l2 l3 l4 l6 l7 : Option Value) (x : Int32) (st : List Value) (σ : dS), den mX7_cover 114 [l0, l1, l2, l3, l4, some (.int x), l6, l7] st σ = den mX7_cover 116 [l0, l1, l2, l3, l4, some (.int x), l6, l7] (.int x :: st) σ) ∧
  (∀ (l0 l1 l2 l3 l4 l5 l6 l7 : Option Value) (a0 : Int32) (a1 : Int32) (q : Nat) (σ : dS), den mX7_cover 116 [l0, l1, l2, l3, l4, l5, l6, l7] [.int a1, .int a0, .ref q] σ = if disO σ q 6 = true then ((dcall mX7_holdsBy [.ref q, .int a0, .int a1] σ).bind fun r => den mX7_cover 119 [l0, l1, l2, l3, l4, l5, l6, l7] (r.1.toList ++ []) r.2) else none) ∧
  (∀ (l0 l1 l2 l3 l4 l5 l6 l7 : Option Value) (x : Int32) (st : List Value) (σ : dS), den mX7_cover 119 [l0, l1, l2, l3, l4, l5, l6, l7] (.int x :: st) σ = if x = 0 then den mX7_cover 122 [l0, l1, l2, l3, l4, l5, l6, l7] st σ else den mX7_cover 126 [l0, l1, l2, l3, l4, l5, l6, l7] st σ) ∧
  (∀ (l0 l1 l2 l3 l4 l5 l6 l7 : Option Value) (st : List Value) (σ : dS), den mX7_cover 122 [l0, l1, l2, l3, l4, l5, l6, l7] st σ = den mX7_cover 123 [l0, l1, l2, l3, l4, l5, l6, l7] (.int (nI 1) :: st) σ) ∧
  (∀ (l0 l1 l2 l3 l4 l5 l6 l7 : Option Value) (st : List Value) (σ : dS), den mX7_cover 123 [l0, l1, l2, l3, l4, l5, l6, l7] st σ = den mX7_cover 127 [l0, l1, l2, l3, l4, l5, l6, l7] st σ) ∧
  (∀ (l0 l1 l2 l3 l4 l5 l6 l7 : Option Value) (st : List Value) (σ : dS), den mX7_cover 126 [l0, l1, l2, l3, l4, l5, l6, l7] st σ = den mX7_cover 127 [l0, l1, l2, l3, l4, l5, l6, l7] (.int (nI 0) :: st) σ) ∧
  (∀ (l0 l1 l2 l4 l5 l6 l7 : Option Value) (x : Int32) (y : Int32) (st : List Value) (σ : dS), den mX7_cover 127 [l0, l1, l2, some (.int y), l4, l5, l6, l7] (.int x :: st) σ = den mX7_cover 129 [l0, l1, l2, some (.int y), some (.int x), l5, l6, l7] st σ) ∧
  (∀ (l0 l1 l2 l3 l6 l7 : Option Value) (x : Int32) (y : Int32) (st : List Value) (σ : dS), den mX7_cover 129 [l0, l1, l2, l3, some (.int y), some (.int x), l6, l7] st σ = den mX7_cover 132 [l0, l1, l2, l3, some (.int y), some (.int (x + nI 1)), l6, l7] st σ) ∧
  (∀ (l0 l1 l2 l3 l4 l5 l6 l7 : Option Value) (st : List Value) (σ : dS), den mX7_cover 132 [l0, l1, l2, l3, l4, l5, l6, l7] st σ = den mX7_cover 40 [l0, l1, l2, l3, l4, l5, l6, l7] st σ) ∧
  (∀ (l0 l1 l2 l3 l5 l6 l7 : Option Value) (x : Int32) (st : List Value) (σ : dS), den mX7_cover 135 [l0, l1, l2, l3, some (.int x), l5, l6, l7] st σ = den mX7_cover 137 [l0, l1, l2, l3, some (.int x), l5, l6, l7] (.int x :: st) σ) ∧
  (∀ (l0 l1 l2 l3 l4 l5 l6 l7 : Option Value) (a0 : Int32) (σ : dS), den mX7_cover 137 [l0, l1, l2, l3, l4, l5, l6, l7] [.int a0] σ = (dcall mX7_flag [.int a0] σ).bind fun r => den mX7_cover 140 [l0, l1, l2, l3, l4, l5, l6, l7] (r.1.toList ++ []) r.2) ∧
  (∀ (l0 l1 l2 l3 l4 l5 l6 l7 : Option Value) (v : Int32) (σ : dS), den mX7_cover 140 [l0, l1, l2, l3, l4, l5, l6, l7] [.int v] σ = some (some (.int v), σ)) :=
  ⟨fun l0 l1 l2 l3 l4 l5 l6 l7 x st σ => dn_if_ne eX7_cover dX7_cover_65 (by decide),
  fun l0 l1 l3 l4 l5 l6 l7 x st σ => dn_iload_n eX7_cover dX7_cover_68 rfl,
  fun l0 l1 l2 l3 l4 l5 l6 x st σ => dn_iload eX7_cover dX7_cover_69 rfl,
  fun l0 l1 l2 l3 l4 l5 l6 l7 x y st σ => dn_ishr eX7_cover dX7_cover_71,
  fun l0 l1 l2 l3 l4 l5 l6 l7 st σ => dn_iconst eX7_cover dX7_cover_72 kc_iconst_1,
  fun l0 l1 l2 l3 l4 l5 l6 l7 x y st σ => dn_iand eX7_cover dX7_cover_73,
  fun l0 l1 l2 l3 l4 l5 l6 l7 st σ => dn_iconst eX7_cover dX7_cover_74 kc_iconst_1,
  fun l0 l1 l2 l3 l4 l5 l6 l7 x y st σ => dn_icmp_ne eX7_cover dX7_cover_75 (by decide),
  fun l1 l2 l3 l4 l5 l6 l7 x st σ => dn_aload_n eX7_cover dX7_cover_78 rfl,
  fun l0 l1 l2 l3 l4 l5 l6 x st σ => dn_iload eX7_cover dX7_cover_79 rfl,
  fun l0 l1 l2 l3 l4 l6 l7 x st σ => dn_iload eX7_cover dX7_cover_81 rfl,
  fun l0 l1 l2 l3 l4 l5 l6 l7 a0 a1 q σ => rX7_cover_83 l0 l1 l2 l3 l4 l5 l6 l7 a0 a1 q σ,
  fun l0 l1 l2 l3 l4 l5 l6 l7 x st σ => dn_if_eq eX7_cover dX7_cover_86 (by decide),
  fun l0 l1 l2 l3 l4 l5 l6 l7 st σ => dn_iconst eX7_cover dX7_cover_89 kc_iconst_1,
  fun l0 l1 l2 l3 l4 l5 l6 l7 st σ => dn_goto eX7_cover dX7_cover_90 (by decide),
  fun l0 l1 l2 l3 l4 l5 l6 l7 st σ => dn_iconst eX7_cover dX7_cover_93 kc_iconst_0,
  fun l0 l1 l2 l3 l4 l6 l7 x y st σ => dn_istore eX7_cover dX7_cover_94 rfl,
  fun l0 l1 l2 l3 l4 l5 x y st σ => dn_iinc (v := nI 1) eX7_cover dX7_cover_96 rfl kc_iconst_1 rfl,
  fun l0 l1 l2 l3 l4 l5 l6 l7 st σ => dn_goto eX7_cover dX7_cover_99 (by decide),
  fun l0 l1 l2 l3 l5 l6 l7 x st σ => dn_iload eX7_cover dX7_cover_102 rfl,
  fun l0 l1 l2 l3 l4 l5 l6 l7 x st σ => dn_if_eq eX7_cover dX7_cover_104 (by decide),
  fun l0 l1 l2 l3 l4 l5 l7 x st σ => dn_iload eX7_cover dX7_cover_107 rfl,
  fun l0 l1 l2 l3 l4 l5 l6 l7 x st σ => dn_if_ne eX7_cover dX7_cover_109 (by decide),
  fun l1 l2 l3 l4 l5 l6 l7 x st σ => dn_aload_n eX7_cover dX7_cover_112 rfl,
  fun l0 l2 l3 l4 l5 l6 l7 x st σ => dn_iload_n eX7_cover dX7_cover_113 rfl,
  fun l0 l1 l2 l3 l4 l6 l7 x st σ => dn_iload eX7_cover dX7_cover_114 rfl,
  fun l0 l1 l2 l3 l4 l5 l6 l7 a0 a1 q σ => rX7_cover_116 l0 l1 l2 l3 l4 l5 l6 l7 a0 a1 q σ,
  fun l0 l1 l2 l3 l4 l5 l6 l7 x st σ => dn_if_ne eX7_cover dX7_cover_119 (by decide),
  fun l0 l1 l2 l3 l4 l5 l6 l7 st σ => dn_iconst eX7_cover dX7_cover_122 kc_iconst_1,
  fun l0 l1 l2 l3 l4 l5 l6 l7 st σ => dn_goto eX7_cover dX7_cover_123 (by decide),
  fun l0 l1 l2 l3 l4 l5 l6 l7 st σ => dn_iconst eX7_cover dX7_cover_126 kc_iconst_0,
  fun l0 l1 l2 l4 l5 l6 l7 x y st σ => dn_istore eX7_cover dX7_cover_127 rfl,
  fun l0 l1 l2 l3 l6 l7 x y st σ => dn_iinc (v := nI 1) eX7_cover dX7_cover_129 rfl kc_iconst_1 rfl,
  fun l0 l1 l2 l3 l4 l5 l6 l7 st σ => dn_goto eX7_cover dX7_cover_132 (by decide),
  fun l0 l1 l2 l3 l5 l6 l7 x st σ => dn_iload eX7_cover dX7_cover_135 rfl,
  fun l0 l1 l2 l3 l4 l5 l6 l7 a0 σ => dn_callS (e := (1, 103, 951)) (as := [.int a0]) (rest := []) eX7_cover dX7_cover_137 (by decide +kernel) (Or.inl rfl) (by decide +kernel) rfl (dcat_le rfl) (dlen_le rfl) rfl,
  fun l0 l1 l2 l3 l4 l5 l6 l7 v σ => dn_ireturn eX7_cover dX7_cover_140 rfl⟩
theorem CX7_starts (a0 : Nat) (a1 : Int32) (a2 : Int32) (a3 : Int32) (a4 : Int32) (σ : dS) : dcall mX7_starts [.ref a0, .int a1, .int a2, .int a3, .int a4] σ = den mX7_starts 0 [some (.ref a0), some (.int a1), some (.int a2), some (.int a3), some (.int a4), none] [] σ := dcall_den (by decide) rfl
theorem hX7_starts_3 (l0 l1 l2 l3 l4 : Option Value) (x : Int32) (st : List Value) (σ : dS) : den mX7_starts 3 [l0, l1, l2, l3, l4, some (.int x)] st σ = den mX7_starts 5 [l0, l1, l2, l3, l4, some (.int x)] (.int x :: st) σ := dn_iload eX7_starts dX7_starts_3 rfl
set_option maxRecDepth 20000 in
theorem SX7_starts : (∀ (l0 l1 l2 l3 l4 l5 : Option Value) (st : List Value) (σ : dS), den mX7_starts 0 [l0, l1, l2, l3, l4, l5] st σ = den mX7_starts 1 [l0, l1, l2, l3, l4, l5] (.int (nI 0) :: st) σ) ∧
  (∀ (l0 l1 l2 l3 l5 : Option Value) (x : Int32) (y : Int32) (st : List Value) (σ : dS), den mX7_starts 1 [l0, l1, l2, l3, some (.int y), l5] (.int x :: st) σ = den mX7_starts 3 [l0, l1, l2, l3, some (.int y), some (.int x)] st σ) ∧
  (∀ (l0 l1 l2 l3 l4 l5 : Option Value) (st : List Value) (σ : dS), den mX7_starts 5 [l0, l1, l2, l3, l4, l5] st σ = den mX7_starts 7 [l0, l1, l2, l3, l4, l5] (.int (nI 8) :: st) σ) ∧
  (∀ (l0 l1 l2 l3 l4 l5 : Option Value) (x y : Int32) (st : List Value) (σ : dS), den mX7_starts 7 [l0, l1, l2, l3, l4, l5] (.int y :: .int x :: st) σ = if x < y then den mX7_starts 10 [l0, l1, l2, l3, l4, l5] st σ else den mX7_starts 24 [l0, l1, l2, l3, l4, l5] st σ) ∧
  (∀ (l1 l2 l3 l4 l5 : Option Value) (x : Nat) (st : List Value) (σ : dS), den mX7_starts 10 [some (.ref x), l1, l2, l3, l4, l5] st σ = den mX7_starts 11 [some (.ref x), l1, l2, l3, l4, l5] (.ref x :: st) σ) ∧
  (∀ (l0 l1 l2 l3 l4 l5 : Option Value) (q : Nat) (st : List Value) (σ : dS), den mX7_starts 11 [l0, l1, l2, l3, l4, l5] (.ref q :: st) σ = (dget σ q 6 18).bind fun v => den mX7_starts 14 [l0, l1, l2, l3, l4, l5] (v :: st) σ) ∧
  (∀ (l0 l1 l2 l3 l4 : Option Value) (x : Int32) (st : List Value) (σ : dS), den mX7_starts 14 [l0, l1, l2, l3, l4, some (.int x)] st σ = den mX7_starts 16 [l0, l1, l2, l3, l4, some (.int x)] (.int x :: st) σ) ∧
  (∀ (l0 l1 l2 l3 l4 l5 : Option Value) (st : List Value) (σ : dS), den mX7_starts 16 [l0, l1, l2, l3, l4, l5] st σ = den mX7_starts 17 [l0, l1, l2, l3, l4, l5] (.int (nI 0) :: st) σ) ∧
  (∀ (l0 l1 l2 l3 l4 l5 : Option Value) (q : Nat) (i x : Int32) (st : List Value) (σ : dS), den mX7_starts 17 [l0, l1, l2, l3, l4, l5] (.int x :: .int i :: .ref q :: st) σ = (dast σ q 0 i x).bind fun τ => den mX7_starts 18 [l0, l1, l2, l3, l4, l5] st τ) ∧
  (∀ (l0 l1 l2 l3 : Option Value) (x : Int32) (y : Int32) (st : List Value) (σ : dS), den mX7_starts 18 [l0, l1, l2, l3, some (.int y), some (.int x)] st σ = den mX7_starts 21 [l0, l1, l2, l3, some (.int y), some (.int (x + nI 1))] st σ) ∧
  (∀ (l0 l1 l2 l3 l4 l5 : Option Value) (st : List Value) (σ : dS), den mX7_starts 21 [l0, l1, l2, l3, l4, l5] st σ = den mX7_starts 3 [l0, l1, l2, l3, l4, l5] st σ) ∧
  (∀ (l1 l2 l3 l4 l5 : Option Value) (x : Nat) (st : List Value) (σ : dS), den mX7_starts 24 [some (.ref x), l1, l2, l3, l4, l5] st σ = den mX7_starts 25 [some (.ref x), l1, l2, l3, l4, l5] (.ref x :: st) σ) ∧
  (∀ (l0 l1 l2 l3 l4 l5 : Option Value) (q : Nat) (st : List Value) (σ : dS), den mX7_starts 25 [l0, l1, l2, l3, l4, l5] (.ref q :: st) σ = (dget σ q 6 18).bind fun v => den mX7_starts 28 [l0, l1, l2, l3, l4, l5] (v :: st) σ) ∧
  (∀ (l0 l1 l2 l3 l4 l5 : Option Value) (st : List Value) (σ : dS), den mX7_starts 28 [l0, l1, l2, l3, l4, l5] st σ = den mX7_starts 29 [l0, l1, l2, l3, l4, l5] (.int (nI 0) :: st) σ) ∧
  (∀ (l0 l2 l3 l4 l5 : Option Value) (x : Int32) (st : List Value) (σ : dS), den mX7_starts 29 [l0, some (.int x), l2, l3, l4, l5] st σ = den mX7_starts 30 [l0, some (.int x), l2, l3, l4, l5] (.int x :: st) σ) ∧
  (∀ (l0 l1 l2 l3 l4 l5 : Option Value) (q : Nat) (i x : Int32) (st : List Value) (σ : dS), den mX7_starts 30 [l0, l1, l2, l3, l4, l5] (.int x :: .int i :: .ref q :: st) σ = (dast σ q 0 i x).bind fun τ => den mX7_starts 31 [l0, l1, l2, l3, l4, l5] st τ) ∧
  (∀ (l1 l2 l3 l4 l5 : Option Value) (x : Nat) (st : List Value) (σ : dS), den mX7_starts 31 [some (.ref x), l1, l2, l3, l4, l5] st σ = den mX7_starts 32 [some (.ref x), l1, l2, l3, l4, l5] (.ref x :: st) σ) ∧
  (∀ (l0 l1 l2 l3 l4 l5 : Option Value) (q : Nat) (st : List Value) (σ : dS), den mX7_starts 32 [l0, l1, l2, l3, l4, l5] (.ref q :: st) σ = (dget σ q 6 18).bind fun v => den mX7_starts 35 [l0, l1, l2, l3, l4, l5] (v :: st) σ) ∧
  (∀ (l0 l1 l2 l3 l4 l5 : Option Value) (st : List Value) (σ : dS), den mX7_starts 35 [l0, l1, l2, l3, l4, l5] st σ = den mX7_starts 36 [l0, l1, l2, l3, l4, l5] (.int (nI 1) :: st) σ) ∧
  (∀ (l0 l1 l3 l4 l5 : Option Value) (x : Int32) (st : List Value) (σ : dS), den mX7_starts 36 [l0, l1, some (.int x), l3, l4, l5] st σ = den mX7_starts 37 [l0, l1, some (.int x), l3, l4, l5] (.int x :: st) σ) ∧
  (∀ (l0 l1 l2 l3 l4 l5 : Option Value) (q : Nat) (i x : Int32) (st : List Value) (σ : dS), den mX7_starts 37 [l0, l1, l2, l3, l4, l5] (.int x :: .int i :: .ref q :: st) σ = (dast σ q 0 i x).bind fun τ => den mX7_starts 38 [l0, l1, l2, l3, l4, l5] st τ) ∧
  (∀ (l1 l2 l3 l4 l5 : Option Value) (x : Nat) (st : List Value) (σ : dS), den mX7_starts 38 [some (.ref x), l1, l2, l3, l4, l5] st σ = den mX7_starts 39 [some (.ref x), l1, l2, l3, l4, l5] (.ref x :: st) σ) ∧
  (∀ (l0 l1 l2 l3 l4 l5 : Option Value) (q : Nat) (st : List Value) (σ : dS), den mX7_starts 39 [l0, l1, l2, l3, l4, l5] (.ref q :: st) σ = (dget σ q 6 18).bind fun v => den mX7_starts 42 [l0, l1, l2, l3, l4, l5] (v :: st) σ) ∧
  (∀ (l0 l1 l2 l3 l4 l5 : Option Value) (st : List Value) (σ : dS), den mX7_starts 42 [l0, l1, l2, l3, l4, l5] st σ = den mX7_starts 43 [l0, l1, l2, l3, l4, l5] (.int (nI 2) :: st) σ) ∧
  (∀ (l0 l1 l2 l4 l5 : Option Value) (x : Int32) (st : List Value) (σ : dS), den mX7_starts 43 [l0, l1, l2, some (.int x), l4, l5] st σ = den mX7_starts 44 [l0, l1, l2, some (.int x), l4, l5] (.int x :: st) σ) ∧
  (∀ (l0 l1 l2 l3 l4 l5 : Option Value) (q : Nat) (i x : Int32) (st : List Value) (σ : dS), den mX7_starts 44 [l0, l1, l2, l3, l4, l5] (.int x :: .int i :: .ref q :: st) σ = (dast σ q 0 i x).bind fun τ => den mX7_starts 45 [l0, l1, l2, l3, l4, l5] st τ) ∧
  (∀ (l1 l2 l3 l4 l5 : Option Value) (x : Nat) (st : List Value) (σ : dS), den mX7_starts 45 [some (.ref x), l1, l2, l3, l4, l5] st σ = den mX7_starts 46 [some (.ref x), l1, l2, l3, l4, l5] (.ref x :: st) σ) ∧
  (∀ (l0 l1 l2 l3 l4 l5 : Option Value) (q : Nat) (st : List Value) (σ : dS), den mX7_starts 46 [l0, l1, l2, l3, l4, l5] (.ref q :: st) σ = (dget σ q 6 18).bind fun v => den mX7_starts 49 [l0, l1, l2, l3, l4, l5] (v :: st) σ) ∧
  (∀ (l0 l1 l2 l3 l4 l5 : Option Value) (st : List Value) (σ : dS), den mX7_starts 49 [l0, l1, l2, l3, l4, l5] st σ = den mX7_starts 50 [l0, l1, l2, l3, l4, l5] (.int (nI 3) :: st) σ) ∧
  (∀ (l0 l1 l2 l3 l5 : Option Value) (x : Int32) (st : List Value) (σ : dS), den mX7_starts 50 [l0, l1, l2, l3, some (.int x), l5] st σ = den mX7_starts 52 [l0, l1, l2, l3, some (.int x), l5] (.int x :: st) σ) ∧
  (∀ (l0 l1 l2 l3 l4 l5 : Option Value) (q : Nat) (i x : Int32) (st : List Value) (σ : dS), den mX7_starts 52 [l0, l1, l2, l3, l4, l5] (.int x :: .int i :: .ref q :: st) σ = (dast σ q 0 i x).bind fun τ => den mX7_starts 53 [l0, l1, l2, l3, l4, l5] st τ) ∧
  (∀ (l0 l1 l2 l3 l4 l5 : Option Value) (σ : dS), den mX7_starts 53 [l0, l1, l2, l3, l4, l5] [] σ = some (none, σ)) :=
  ⟨fun l0 l1 l2 l3 l4 l5 st σ => dn_iconst eX7_starts dX7_starts_0 kc_iconst_0,
  fun l0 l1 l2 l3 l5 x y st σ => dn_istore eX7_starts dX7_starts_1 rfl,
  fun l0 l1 l2 l3 l4 l5 st σ => dn_bipush eX7_starts dX7_starts_5 kc_bipush_8,
  fun l0 l1 l2 l3 l4 l5 x y st σ => dn_icmp_ge eX7_starts dX7_starts_7 (by decide),
  fun l1 l2 l3 l4 l5 x st σ => dn_aload_n eX7_starts dX7_starts_10 rfl,
  fun l0 l1 l2 l3 l4 l5 q st σ => dn_getfield (f := (6, 18, 789)) eX7_starts dX7_starts_11 (by decide +kernel),
  fun l0 l1 l2 l3 l4 x st σ => dn_iload eX7_starts dX7_starts_14 rfl,
  fun l0 l1 l2 l3 l4 l5 st σ => dn_iconst eX7_starts dX7_starts_16 kc_iconst_0,
  fun l0 l1 l2 l3 l4 l5 q i x st σ => dn_iastore eX7_starts dX7_starts_17,
  fun l0 l1 l2 l3 x y st σ => dn_iinc (v := nI 1) eX7_starts dX7_starts_18 rfl kc_iconst_1 rfl,
  fun l0 l1 l2 l3 l4 l5 st σ => dn_goto eX7_starts dX7_starts_21 (by decide),
  fun l1 l2 l3 l4 l5 x st σ => dn_aload_n eX7_starts dX7_starts_24 rfl,
  fun l0 l1 l2 l3 l4 l5 q st σ => dn_getfield (f := (6, 18, 789)) eX7_starts dX7_starts_25 (by decide +kernel),
  fun l0 l1 l2 l3 l4 l5 st σ => dn_iconst eX7_starts dX7_starts_28 kc_iconst_0,
  fun l0 l2 l3 l4 l5 x st σ => dn_iload_n eX7_starts dX7_starts_29 rfl,
  fun l0 l1 l2 l3 l4 l5 q i x st σ => dn_iastore eX7_starts dX7_starts_30,
  fun l1 l2 l3 l4 l5 x st σ => dn_aload_n eX7_starts dX7_starts_31 rfl,
  fun l0 l1 l2 l3 l4 l5 q st σ => dn_getfield (f := (6, 18, 789)) eX7_starts dX7_starts_32 (by decide +kernel),
  fun l0 l1 l2 l3 l4 l5 st σ => dn_iconst eX7_starts dX7_starts_35 kc_iconst_1,
  fun l0 l1 l3 l4 l5 x st σ => dn_iload_n eX7_starts dX7_starts_36 rfl,
  fun l0 l1 l2 l3 l4 l5 q i x st σ => dn_iastore eX7_starts dX7_starts_37,
  fun l1 l2 l3 l4 l5 x st σ => dn_aload_n eX7_starts dX7_starts_38 rfl,
  fun l0 l1 l2 l3 l4 l5 q st σ => dn_getfield (f := (6, 18, 789)) eX7_starts dX7_starts_39 (by decide +kernel),
  fun l0 l1 l2 l3 l4 l5 st σ => dn_iconst eX7_starts dX7_starts_42 kc_iconst_2,
  fun l0 l1 l2 l4 l5 x st σ => dn_iload_n eX7_starts dX7_starts_43 rfl,
  fun l0 l1 l2 l3 l4 l5 q i x st σ => dn_iastore eX7_starts dX7_starts_44,
  fun l1 l2 l3 l4 l5 x st σ => dn_aload_n eX7_starts dX7_starts_45 rfl,
  fun l0 l1 l2 l3 l4 l5 q st σ => dn_getfield (f := (6, 18, 789)) eX7_starts dX7_starts_46 (by decide +kernel),
  fun l0 l1 l2 l3 l4 l5 st σ => dn_iconst eX7_starts dX7_starts_49 kc_iconst_3,
  fun l0 l1 l2 l3 l5 x st σ => dn_iload eX7_starts dX7_starts_50 rfl,
  fun l0 l1 l2 l3 l4 l5 q i x st σ => dn_iastore eX7_starts dX7_starts_52,
  fun l0 l1 l2 l3 l4 l5 σ => dn_return eX7_starts dX7_starts_53 rfl⟩
theorem CX7_brought (a0 : Nat) (a1 : Int32) (a2 : Int32) (a3 : Int32) (σ : dS) : dcall mX7_brought [.ref a0, .int a1, .int a2, .int a3] σ = den mX7_brought 0 [some (.ref a0), some (.int a1), some (.int a2), some (.int a3)] [] σ := dcall_den (by decide) rfl
theorem rX7_brought_1 (l0 l1 l2 l3 : Option Value) (x : Int32) (st : List Value) (σ : dS) : den mX7_brought 1 [l0, l1, l2, l3] (.int x :: st) σ = if x = nI 1 then den mX7_brought 28 [l0, l1, l2, l3] st σ else if x = nI 2 then den mX7_brought 32 [l0, l1, l2, l3] st σ else if x = nI 3 then den mX7_brought 36 [l0, l1, l2, l3] st σ else den mX7_brought 40 [l0, l1, l2, l3] st σ := by
  by_cases h0 : x = nI 1
  · rw [if_pos h0, h0]; exact dn_swIn (off := 27) eX7_brought dX7_brought_1 (by decide +kernel) (by decide +kernel) (by decide)
  rw [if_neg h0]
  by_cases h1 : x = nI 2
  · rw [if_pos h1, h1]; exact dn_swIn (off := 31) eX7_brought dX7_brought_1 (by decide +kernel) (by decide +kernel) (by decide)
  rw [if_neg h1]
  by_cases h2 : x = nI 3
  · rw [if_pos h2, h2]; exact dn_swIn (off := 35) eX7_brought dX7_brought_1 (by decide +kernel) (by decide +kernel) (by decide)
  rw [if_neg h2]
  refine dn_swOut eX7_brought dX7_brought_1 (by decide) ?_
  have g : x.toInt ≠ 1 ∧ x.toInt ≠ 2 ∧ x.toInt ≠ 3 := ⟨sw_ne h0, sw_ne h1, sw_ne h2⟩
  omega
set_option maxRecDepth 20000 in
theorem SX7_brought : (∀ (l0 l2 l3 : Option Value) (x : Int32) (st : List Value) (σ : dS), den mX7_brought 0 [l0, some (.int x), l2, l3] st σ = den mX7_brought 1 [l0, some (.int x), l2, l3] (.int x :: st) σ) ∧
  (∀ (l0 l1 l2 l3 : Option Value) (x : Int32) (st : List Value) (σ : dS), den mX7_brought 1 [l0, l1, l2, l3] (.int x :: st) σ = if x = nI 1 then den mX7_brought 28 [l0, l1, l2, l3] st σ else if x = nI 2 then den mX7_brought 32 [l0, l1, l2, l3] st σ else if x = nI 3 then den mX7_brought 36 [l0, l1, l2, l3] st σ else den mX7_brought 40 [l0, l1, l2, l3] st σ) ∧
  (∀ (l0 l1 l3 : Option Value) (x : Int32) (st : List Value) (σ : dS), den mX7_brought 28 [l0, l1, some (.int x), l3] st σ = den mX7_brought 29 [l0, l1, some (.int x), l3] (.int x :: st) σ) ∧
  (∀ (l0 l1 l2 : Option Value) (x : Int32) (st : List Value) (σ : dS), den mX7_brought 29 [l0, l1, l2, some (.int x)] st σ = den mX7_brought 30 [l0, l1, l2, some (.int x)] (.int x :: st) σ) ∧
  (∀ (l0 l1 l2 l3 : Option Value) (x y : Int32) (st : List Value) (σ : dS), den mX7_brought 30 [l0, l1, l2, l3] (.int y :: .int x :: st) σ = den mX7_brought 31 [l0, l1, l2, l3] (.int (x + y) :: st) σ) ∧
  (∀ (l0 l1 l2 l3 : Option Value) (v : Int32) (σ : dS), den mX7_brought 31 [l0, l1, l2, l3] [.int v] σ = some (some (.int v), σ)) ∧
  (∀ (l0 l1 l3 : Option Value) (x : Int32) (st : List Value) (σ : dS), den mX7_brought 32 [l0, l1, some (.int x), l3] st σ = den mX7_brought 33 [l0, l1, some (.int x), l3] (.int x :: st) σ) ∧
  (∀ (l0 l1 l2 : Option Value) (x : Int32) (st : List Value) (σ : dS), den mX7_brought 33 [l0, l1, l2, some (.int x)] st σ = den mX7_brought 34 [l0, l1, l2, some (.int x)] (.int x :: st) σ) ∧
  (∀ (l0 l1 l2 l3 : Option Value) (x y : Int32) (st : List Value) (σ : dS), den mX7_brought 34 [l0, l1, l2, l3] (.int y :: .int x :: st) σ = den mX7_brought 35 [l0, l1, l2, l3] (.int (x - y) :: st) σ) ∧
  (∀ (l0 l1 l2 l3 : Option Value) (v : Int32) (σ : dS), den mX7_brought 35 [l0, l1, l2, l3] [.int v] σ = some (some (.int v), σ)) ∧
  (∀ (l0 l1 l3 : Option Value) (x : Int32) (st : List Value) (σ : dS), den mX7_brought 36 [l0, l1, some (.int x), l3] st σ = den mX7_brought 37 [l0, l1, some (.int x), l3] (.int x :: st) σ) ∧
  (∀ (l0 l1 l2 : Option Value) (x : Int32) (st : List Value) (σ : dS), den mX7_brought 37 [l0, l1, l2, some (.int x)] st σ = den mX7_brought 38 [l0, l1, l2, some (.int x)] (.int x :: st) σ) ∧
  (∀ (l0 l1 l2 l3 : Option Value) (x y : Int32) (st : List Value) (σ : dS), den mX7_brought 38 [l0, l1, l2, l3] (.int y :: .int x :: st) σ = den mX7_brought 39 [l0, l1, l2, l3] (.int (x * y) :: st) σ) ∧
  (∀ (l0 l1 l2 l3 : Option Value) (v : Int32) (σ : dS), den mX7_brought 39 [l0, l1, l2, l3] [.int v] σ = some (some (.int v), σ)) ∧
  (∀ (l0 l1 l2 : Option Value) (x : Int32) (st : List Value) (σ : dS), den mX7_brought 40 [l0, l1, l2, some (.int x)] st σ = den mX7_brought 41 [l0, l1, l2, some (.int x)] (.int x :: st) σ) ∧
  (∀ (l0 l1 l2 l3 : Option Value) (st : List Value) (σ : dS), den mX7_brought 41 [l0, l1, l2, l3] st σ = den mX7_brought 42 [l0, l1, l2, l3] (.int ((-1)) :: st) σ) ∧
  (∀ (l0 l1 l2 l3 : Option Value) (x y : Int32) (st : List Value) (σ : dS), den mX7_brought 42 [l0, l1, l2, l3] (.int y :: .int x :: st) σ = if x = y then den mX7_brought 45 [l0, l1, l2, l3] st σ else den mX7_brought 50 [l0, l1, l2, l3] st σ) ∧
  (∀ (l0 l1 l3 : Option Value) (x : Int32) (st : List Value) (σ : dS), den mX7_brought 45 [l0, l1, some (.int x), l3] st σ = den mX7_brought 46 [l0, l1, some (.int x), l3] (.int x :: st) σ) ∧
  (∀ (l0 l1 l2 l3 : Option Value) (x : Int32) (st : List Value) (σ : dS), den mX7_brought 46 [l0, l1, l2, l3] (.int x :: st) σ = den mX7_brought 47 [l0, l1, l2, l3] (.int (-x) :: st) σ) ∧
  (∀ (l0 l1 l2 l3 : Option Value) (st : List Value) (σ : dS), den mX7_brought 47 [l0, l1, l2, l3] st σ = den mX7_brought 53 [l0, l1, l2, l3] st σ) ∧
  (∀ (l0 l1 l3 : Option Value) (x : Int32) (st : List Value) (σ : dS), den mX7_brought 50 [l0, l1, some (.int x), l3] st σ = den mX7_brought 51 [l0, l1, some (.int x), l3] (.int x :: st) σ) ∧
  (∀ (l0 l1 l2 : Option Value) (x : Int32) (st : List Value) (σ : dS), den mX7_brought 51 [l0, l1, l2, some (.int x)] st σ = den mX7_brought 52 [l0, l1, l2, some (.int x)] (.int x :: st) σ) ∧
  (∀ (l0 l1 l2 l3 : Option Value) (x y : Int32) (st : List Value) (σ : dS), den mX7_brought 52 [l0, l1, l2, l3] (.int y :: .int x :: st) σ = if y = 0 then none else den mX7_brought 53 [l0, l1, l2, l3] (.int (x / y) :: st) σ) ∧
  (∀ (l0 l1 l2 l3 : Option Value) (v : Int32) (σ : dS), den mX7_brought 53 [l0, l1, l2, l3] [.int v] σ = some (some (.int v), σ)) :=
  ⟨fun l0 l2 l3 x st σ => dn_iload_n eX7_brought dX7_brought_0 rfl,
  fun l0 l1 l2 l3 x st σ => rX7_brought_1 l0 l1 l2 l3 x st σ,
  fun l0 l1 l3 x st σ => dn_iload_n eX7_brought dX7_brought_28 rfl,
  fun l0 l1 l2 x st σ => dn_iload_n eX7_brought dX7_brought_29 rfl,
  fun l0 l1 l2 l3 x y st σ => dn_iadd eX7_brought dX7_brought_30,
  fun l0 l1 l2 l3 v σ => dn_ireturn eX7_brought dX7_brought_31 rfl,
  fun l0 l1 l3 x st σ => dn_iload_n eX7_brought dX7_brought_32 rfl,
  fun l0 l1 l2 x st σ => dn_iload_n eX7_brought dX7_brought_33 rfl,
  fun l0 l1 l2 l3 x y st σ => dn_isub eX7_brought dX7_brought_34,
  fun l0 l1 l2 l3 v σ => dn_ireturn eX7_brought dX7_brought_35 rfl,
  fun l0 l1 l3 x st σ => dn_iload_n eX7_brought dX7_brought_36 rfl,
  fun l0 l1 l2 x st σ => dn_iload_n eX7_brought dX7_brought_37 rfl,
  fun l0 l1 l2 l3 x y st σ => dn_imul eX7_brought dX7_brought_38,
  fun l0 l1 l2 l3 v σ => dn_ireturn eX7_brought dX7_brought_39 rfl,
  fun l0 l1 l2 x st σ => dn_iload_n eX7_brought dX7_brought_40 rfl,
  fun l0 l1 l2 l3 st σ => dn_iconst eX7_brought dX7_brought_41 kc_iconst_m1,
  fun l0 l1 l2 l3 x y st σ => dn_icmp_ne eX7_brought dX7_brought_42 (by decide),
  fun l0 l1 l3 x st σ => dn_iload_n eX7_brought dX7_brought_45 rfl,
  fun l0 l1 l2 l3 x st σ => dn_ineg eX7_brought dX7_brought_46,
  fun l0 l1 l2 l3 st σ => dn_goto eX7_brought dX7_brought_47 (by decide),
  fun l0 l1 l3 x st σ => dn_iload_n eX7_brought dX7_brought_50 rfl,
  fun l0 l1 l2 x st σ => dn_iload_n eX7_brought dX7_brought_51 rfl,
  fun l0 l1 l2 l3 x y st σ => dn_idiv eX7_brought dX7_brought_52,
  fun l0 l1 l2 l3 v σ => dn_ireturn eX7_brought dX7_brought_53 rfl⟩
theorem CX7_isDone (a0 : Nat) (a1 : Int32) (σ : dS) : dcall mX7_isDone [.ref a0, .int a1] σ = den mX7_isDone 0 [some (.ref a0), some (.int a1), none] [] σ := dcall_den (by decide) rfl
theorem rX7_isDone_3 (l0 l1 l2 : Option Value) (a0 : Int32) (a1 : Int32) (q : Nat) (σ : dS) : den mX7_isDone 3 [l0, l1, l2] [.int a1, .int a0, .ref q] σ = if disO σ q 6 = true then ((dcall mX7_of [.ref q, .int a0, .int a1] σ).bind fun r => den mX7_isDone 6 [l0, l1, l2] (r.1.toList ++ []) r.2) else none := by
  by_cases h : disO σ q 6 = true
  · rw [if_pos h]; exact dn_callV (e := (0, 120, 947)) (as := [.int a0, .int a1]) (rest := []) eX7_isDone dX7_isDone_3 (by decide +kernel) rfl (by decide +kernel) rfl (dcat_le rfl) (dlen_le rfl) rfl h
  · rw [if_neg h]; exact den_noV (e := (0, 120, 947)) (as := [.int a0, .int a1]) (rest := []) eX7_isDone dX7_isDone_3 (by decide +kernel) rfl rfl rfl h
theorem rX7_isDone_18 (l0 l1 l2 : Option Value) (a0 : Int32) (a1 : Int32) (b0 : Nat) (q : Nat) (σ : dS) : den mX7_isDone 18 [l0, l1, l2] [.int a1, .int a0, .ref q, .ref b0] σ = if disO σ q 6 = true then ((dcall mX7_of [.ref q, .int a0, .int a1] σ).bind fun r => den mX7_isDone 21 [l0, l1, l2] (r.1.toList ++ [.ref b0]) r.2) else none := by
  by_cases h : disO σ q 6 = true
  · rw [if_pos h]; exact dn_callV (e := (0, 120, 947)) (as := [.int a0, .int a1]) (rest := [.ref b0]) eX7_isDone dX7_isDone_18 (by decide +kernel) rfl (by decide +kernel) rfl (dcat_le rfl) (dlen_le rfl) rfl h
  · rw [if_neg h]; exact den_noV (e := (0, 120, 947)) (as := [.int a0, .int a1]) (rest := [.ref b0]) eX7_isDone dX7_isDone_18 (by decide +kernel) rfl rfl rfl h
theorem rX7_isDone_24 (l0 l1 l2 : Option Value) (a0 : Int32) (a1 : Int32) (b0 : Int32) (b1 : Nat) (q : Nat) (σ : dS) : den mX7_isDone 24 [l0, l1, l2] [.int a1, .int a0, .ref q, .int b0, .ref b1] σ = if disO σ q 6 = true then ((dcall mX7_of [.ref q, .int a0, .int a1] σ).bind fun r => den mX7_isDone 27 [l0, l1, l2] (r.1.toList ++ [.int b0, .ref b1]) r.2) else none := by
  by_cases h : disO σ q 6 = true
  · rw [if_pos h]; exact dn_callV (e := (0, 120, 947)) (as := [.int a0, .int a1]) (rest := [.int b0, .ref b1]) eX7_isDone dX7_isDone_24 (by decide +kernel) rfl (by decide +kernel) rfl (dcat_le rfl) (dlen_le rfl) rfl h
  · rw [if_neg h]; exact den_noV (e := (0, 120, 947)) (as := [.int a0, .int a1]) (rest := [.int b0, .ref b1]) eX7_isDone dX7_isDone_24 (by decide +kernel) rfl rfl rfl h
theorem rX7_isDone_43 (l0 l1 l2 : Option Value) (a0 : Int32) (a1 : Int32) (b0 : Nat) (q : Nat) (σ : dS) : den mX7_isDone 43 [l0, l1, l2] [.int a1, .int a0, .ref q, .ref b0] σ = if disO σ q 6 = true then ((dcall mX7_of [.ref q, .int a0, .int a1] σ).bind fun r => den mX7_isDone 46 [l0, l1, l2] (r.1.toList ++ [.ref b0]) r.2) else none := by
  by_cases h : disO σ q 6 = true
  · rw [if_pos h]; exact dn_callV (e := (0, 120, 947)) (as := [.int a0, .int a1]) (rest := [.ref b0]) eX7_isDone dX7_isDone_43 (by decide +kernel) rfl (by decide +kernel) rfl (dcat_le rfl) (dlen_le rfl) rfl h
  · rw [if_neg h]; exact den_noV (e := (0, 120, 947)) (as := [.int a0, .int a1]) (rest := [.ref b0]) eX7_isDone dX7_isDone_43 (by decide +kernel) rfl rfl rfl h
theorem rX7_isDone_75 (l0 l1 l2 : Option Value) (a0 : Int32) (a1 : Int32) (b0 : Nat) (q : Nat) (σ : dS) : den mX7_isDone 75 [l0, l1, l2] [.int a1, .int a0, .ref q, .ref b0] σ = if disO σ q 6 = true then ((dcall mX7_of [.ref q, .int a0, .int a1] σ).bind fun r => den mX7_isDone 78 [l0, l1, l2] (r.1.toList ++ [.ref b0]) r.2) else none := by
  by_cases h : disO σ q 6 = true
  · rw [if_pos h]; exact dn_callV (e := (0, 120, 947)) (as := [.int a0, .int a1]) (rest := [.ref b0]) eX7_isDone dX7_isDone_75 (by decide +kernel) rfl (by decide +kernel) rfl (dcat_le rfl) (dlen_le rfl) rfl h
  · rw [if_neg h]; exact den_noV (e := (0, 120, 947)) (as := [.int a0, .int a1]) (rest := [.ref b0]) eX7_isDone dX7_isDone_75 (by decide +kernel) rfl rfl rfl h
theorem rX7_isDone_87 (l0 l1 l2 : Option Value) (a0 : Int32) (a1 : Int32) (b0 : Nat) (b1 : Int32) (b2 : Nat) (b3 : Int32) (b4 : Nat) (q : Nat) (σ : dS) : den mX7_isDone 87 [l0, l1, l2] [.int a1, .int a0, .ref q, .ref b0, .int b1, .ref b2, .int b3, .ref b4] σ = if disO σ q 6 = true then ((dcall mX7_of [.ref q, .int a0, .int a1] σ).bind fun r => den mX7_isDone 90 [l0, l1, l2] (r.1.toList ++ [.ref b0, .int b1, .ref b2, .int b3, .ref b4]) r.2) else none := by
  by_cases h : disO σ q 6 = true
  · rw [if_pos h]; exact dn_callV (e := (0, 120, 947)) (as := [.int a0, .int a1]) (rest := [.ref b0, .int b1, .ref b2, .int b3, .ref b4]) eX7_isDone dX7_isDone_87 (by decide +kernel) rfl (by decide +kernel) rfl (dcat_le rfl) (dlen_le rfl) rfl h
  · rw [if_neg h]; exact den_noV (e := (0, 120, 947)) (as := [.int a0, .int a1]) (rest := [.ref b0, .int b1, .ref b2, .int b3, .ref b4]) eX7_isDone dX7_isDone_87 (by decide +kernel) rfl rfl rfl h
theorem rX7_isDone_98 (l0 l1 l2 : Option Value) (a0 : Int32) (a1 : Int32) (b0 : Nat) (b1 : Int32) (b2 : Int32) (b3 : Nat) (b4 : Int32) (b5 : Nat) (q : Nat) (σ : dS) : den mX7_isDone 98 [l0, l1, l2] [.int a1, .int a0, .ref q, .ref b0, .int b1, .int b2, .ref b3, .int b4, .ref b5] σ = if disO σ q 6 = true then ((dcall mX7_of [.ref q, .int a0, .int a1] σ).bind fun r => den mX7_isDone 101 [l0, l1, l2] (r.1.toList ++ [.ref b0, .int b1, .int b2, .ref b3, .int b4, .ref b5]) r.2) else none := by
  by_cases h : disO σ q 6 = true
  · rw [if_pos h]; exact dn_callV (e := (0, 120, 947)) (as := [.int a0, .int a1]) (rest := [.ref b0, .int b1, .int b2, .ref b3, .int b4, .ref b5]) eX7_isDone dX7_isDone_98 (by decide +kernel) rfl (by decide +kernel) rfl (dcat_le rfl) (dlen_le rfl) rfl h
  · rw [if_neg h]; exact den_noV (e := (0, 120, 947)) (as := [.int a0, .int a1]) (rest := [.ref b0, .int b1, .int b2, .ref b3, .int b4, .ref b5]) eX7_isDone dX7_isDone_98 (by decide +kernel) rfl rfl rfl h
theorem rX7_isDone_102 (l0 l1 l2 : Option Value) (a0 : Int32) (a1 : Int32) (a2 : Int32) (b0 : Int32) (b1 : Nat) (q : Nat) (σ : dS) : den mX7_isDone 102 [l0, l1, l2] [.int a2, .int a1, .int a0, .ref q, .int b0, .ref b1] σ = if disO σ q 6 = true then ((dcall mX7_brought [.ref q, .int a0, .int a1, .int a2] σ).bind fun r => den mX7_isDone 105 [l0, l1, l2] (r.1.toList ++ [.int b0, .ref b1]) r.2) else none := by
  by_cases h : disO σ q 6 = true
  · rw [if_pos h]; exact dn_callV (e := (0, 147, 1060)) (as := [.int a0, .int a1, .int a2]) (rest := [.int b0, .ref b1]) eX7_isDone dX7_isDone_102 (by decide +kernel) rfl (by decide +kernel) rfl (dcat_le rfl) (dlen_le rfl) rfl h
  · rw [if_neg h]; exact den_noV (e := (0, 147, 1060)) (as := [.int a0, .int a1, .int a2]) (rest := [.int b0, .ref b1]) eX7_isDone dX7_isDone_102 (by decide +kernel) rfl rfl rfl h
set_option maxRecDepth 20000 in
theorem SX7_isDone_0 : (∀ (l1 l2 : Option Value) (x : Nat) (st : List Value) (σ : dS), den mX7_isDone 0 [some (.ref x), l1, l2] st σ = den mX7_isDone 1 [some (.ref x), l1, l2] (.ref x :: st) σ) ∧
  (∀ (l0 l2 : Option Value) (x : Int32) (st : List Value) (σ : dS), den mX7_isDone 1 [l0, some (.int x), l2] st σ = den mX7_isDone 2 [l0, some (.int x), l2] (.int x :: st) σ) ∧
  (∀ (l0 l1 l2 : Option Value) (st : List Value) (σ : dS), den mX7_isDone 2 [l0, l1, l2] st σ = den mX7_isDone 3 [l0, l1, l2] (.int (nI 0) :: st) σ) ∧
  (∀ (l0 l1 l2 : Option Value) (a0 : Int32) (a1 : Int32) (q : Nat) (σ : dS), den mX7_isDone 3 [l0, l1, l2] [.int a1, .int a0, .ref q] σ = if disO σ q 6 = true then ((dcall mX7_of [.ref q, .int a0, .int a1] σ).bind fun r => den mX7_isDone 6 [l0, l1, l2] (r.1.toList ++ []) r.2) else none) ∧
  (∀ (l0 l2 : Option Value) (x : Int32) (y : Int32) (st : List Value) (σ : dS), den mX7_isDone 6 [l0, some (.int y), l2] (.int x :: st) σ = den mX7_isDone 7 [l0, some (.int y), some (.int x)] st σ) ∧
  (∀ (l0 l1 : Option Value) (x : Int32) (st : List Value) (σ : dS), den mX7_isDone 7 [l0, l1, some (.int x)] st σ = den mX7_isDone 8 [l0, l1, some (.int x)] (.int x :: st) σ) ∧
  (∀ (l0 l1 l2 : Option Value) (x : Int32) (st : List Value) (σ : dS), den mX7_isDone 8 [l0, l1, l2] (.int x :: st) σ = if x = 0 then den mX7_isDone 11 [l0, l1, l2] st σ else den mX7_isDone 31 [l0, l1, l2] st σ) ∧
  (∀ (l1 l2 : Option Value) (x : Nat) (st : List Value) (σ : dS), den mX7_isDone 11 [some (.ref x), l1, l2] st σ = den mX7_isDone 12 [some (.ref x), l1, l2] (.ref x :: st) σ) ∧
  (∀ (l0 l1 l2 : Option Value) (q : Nat) (st : List Value) (σ : dS), den mX7_isDone 12 [l0, l1, l2] (.ref q :: st) σ = (dget σ q 6 18).bind fun v => den mX7_isDone 15 [l0, l1, l2] (v :: st) σ) ∧
  (∀ (l1 l2 : Option Value) (x : Nat) (st : List Value) (σ : dS), den mX7_isDone 15 [some (.ref x), l1, l2] st σ = den mX7_isDone 16 [some (.ref x), l1, l2] (.ref x :: st) σ) ∧
  (∀ (l0 l2 : Option Value) (x : Int32) (st : List Value) (σ : dS), den mX7_isDone 16 [l0, some (.int x), l2] st σ = den mX7_isDone 17 [l0, some (.int x), l2] (.int x :: st) σ) ∧
  (∀ (l0 l1 l2 : Option Value) (st : List Value) (σ : dS), den mX7_isDone 17 [l0, l1, l2] st σ = den mX7_isDone 18 [l0, l1, l2] (.int (nI 1) :: st) σ) ∧
  (∀ (l0 l1 l2 : Option Value) (a0 : Int32) (a1 : Int32) (b0 : Nat) (q : Nat) (σ : dS), den mX7_isDone 18 [l0, l1, l2] [.int a1, .int a0, .ref q, .ref b0] σ = if disO σ q 6 = true then ((dcall mX7_of [.ref q, .int a0, .int a1] σ).bind fun r => den mX7_isDone 21 [l0, l1, l2] (r.1.toList ++ [.ref b0]) r.2) else none) ∧
  (∀ (l1 l2 : Option Value) (x : Nat) (st : List Value) (σ : dS), den mX7_isDone 21 [some (.ref x), l1, l2] st σ = den mX7_isDone 22 [some (.ref x), l1, l2] (.ref x :: st) σ) ∧
  (∀ (l0 l2 : Option Value) (x : Int32) (st : List Value) (σ : dS), den mX7_isDone 22 [l0, some (.int x), l2] st σ = den mX7_isDone 23 [l0, some (.int x), l2] (.int x :: st) σ) ∧
  (∀ (l0 l1 l2 : Option Value) (st : List Value) (σ : dS), den mX7_isDone 23 [l0, l1, l2] st σ = den mX7_isDone 24 [l0, l1, l2] (.int (nI 2) :: st) σ) ∧
  (∀ (l0 l1 l2 : Option Value) (a0 : Int32) (a1 : Int32) (b0 : Int32) (b1 : Nat) (q : Nat) (σ : dS), den mX7_isDone 24 [l0, l1, l2] [.int a1, .int a0, .ref q, .int b0, .ref b1] σ = if disO σ q 6 = true then ((dcall mX7_of [.ref q, .int a0, .int a1] σ).bind fun r => den mX7_isDone 27 [l0, l1, l2] (r.1.toList ++ [.int b0, .ref b1]) r.2) else none) ∧
  (∀ (l0 l1 l2 : Option Value) (q : Nat) (i x : Int32) (st : List Value) (σ : dS), den mX7_isDone 27 [l0, l1, l2] (.int x :: .int i :: .ref q :: st) σ = (dast σ q 0 i x).bind fun τ => den mX7_isDone 28 [l0, l1, l2] st τ) ∧
  (∀ (l0 l1 l2 : Option Value) (st : List Value) (σ : dS), den mX7_isDone 28 [l0, l1, l2] st σ = den mX7_isDone 106 [l0, l1, l2] st σ) ∧
  (∀ (l0 l1 : Option Value) (x : Int32) (st : List Value) (σ : dS), den mX7_isDone 31 [l0, l1, some (.int x)] st σ = den mX7_isDone 32 [l0, l1, some (.int x)] (.int x :: st) σ) ∧
  (∀ (l0 l1 l2 : Option Value) (st : List Value) (σ : dS), den mX7_isDone 32 [l0, l1, l2] st σ = den mX7_isDone 33 [l0, l1, l2] (.int (nI 4) :: st) σ) ∧
  (∀ (l0 l1 l2 : Option Value) (x y : Int32) (st : List Value) (σ : dS), den mX7_isDone 33 [l0, l1, l2] (.int y :: .int x :: st) σ = if x = y then den mX7_isDone 36 [l0, l1, l2] st σ else den mX7_isDone 68 [l0, l1, l2] st σ) ∧
  (∀ (l1 l2 : Option Value) (x : Nat) (st : List Value) (σ : dS), den mX7_isDone 36 [some (.ref x), l1, l2] st σ = den mX7_isDone 37 [some (.ref x), l1, l2] (.ref x :: st) σ) ∧
  (∀ (l0 l1 l2 : Option Value) (q : Nat) (st : List Value) (σ : dS), den mX7_isDone 37 [l0, l1, l2] (.ref q :: st) σ = (dget σ q 6 18).bind fun v => den mX7_isDone 40 [l0, l1, l2] (v :: st) σ) ∧
  (∀ (l1 l2 : Option Value) (x : Nat) (st : List Value) (σ : dS), den mX7_isDone 40 [some (.ref x), l1, l2] st σ = den mX7_isDone 41 [some (.ref x), l1, l2] (.ref x :: st) σ) ∧
  (∀ (l0 l2 : Option Value) (x : Int32) (st : List Value) (σ : dS), den mX7_isDone 41 [l0, some (.int x), l2] st σ = den mX7_isDone 42 [l0, some (.int x), l2] (.int x :: st) σ) ∧
  (∀ (l0 l1 l2 : Option Value) (st : List Value) (σ : dS), den mX7_isDone 42 [l0, l1, l2] st σ = den mX7_isDone 43 [l0, l1, l2] (.int (nI 3) :: st) σ) ∧
  (∀ (l0 l1 l2 : Option Value) (a0 : Int32) (a1 : Int32) (b0 : Nat) (q : Nat) (σ : dS), den mX7_isDone 43 [l0, l1, l2] [.int a1, .int a0, .ref q, .ref b0] σ = if disO σ q 6 = true then ((dcall mX7_of [.ref q, .int a0, .int a1] σ).bind fun r => den mX7_isDone 46 [l0, l1, l2] (r.1.toList ++ [.ref b0]) r.2) else none) ∧
  (∀ (l0 l1 l2 : Option Value) (q : Nat) (i : Int32) (st : List Value) (σ : dS), den mX7_isDone 46 [l0, l1, l2] (.int i :: .ref q :: st) σ = if q ≤ dN then (dald σ q 0 i).bind (fun v => den mX7_isDone 47 [l0, l1, l2] (.int v :: st) σ) else none) ∧
  (∀ (l0 l1 l2 : Option Value) (x : Int32) (st : List Value) (σ : dS), den mX7_isDone 47 [l0, l1, l2] (.int x :: st) σ = if x = 0 then den mX7_isDone 50 [l0, l1, l2] st σ else den mX7_isDone 68 [l0, l1, l2] st σ) ∧
  (∀ (l1 l2 : Option Value) (x : Nat) (st : List Value) (σ : dS), den mX7_isDone 50 [some (.ref x), l1, l2] st σ = den mX7_isDone 51 [some (.ref x), l1, l2] (.ref x :: st) σ) ∧
  (∀ (l0 l2 : Option Value) (x : Int32) (st : List Value) (σ : dS), den mX7_isDone 51 [l0, some (.int x), l2] st σ = den mX7_isDone 52 [l0, some (.int x), l2] (.int x :: st) σ) ∧
  (∀ (l0 l1 l2 : Option Value) (x : Int32) (q : Nat) (st : List Value) (σ : dS), den mX7_isDone 52 [l0, l1, l2] (.int x :: .ref q :: st) σ = (dput σ q 6 26 (.int x)).bind fun τ => den mX7_isDone 55 [l0, l1, l2] st τ) ∧
  (∀ (l1 l2 : Option Value) (x : Nat) (st : List Value) (σ : dS), den mX7_isDone 55 [some (.ref x), l1, l2] st σ = den mX7_isDone 56 [some (.ref x), l1, l2] (.ref x :: st) σ) ∧
  (∀ (l0 l1 l2 : Option Value) (x : Nat) (st : List Value) (σ : dS), den mX7_isDone 56 [l0, l1, l2] (.ref x :: st) σ = den mX7_isDone 57 [l0, l1, l2] (.ref x :: .ref x :: st) σ) ∧
  (∀ (l0 l1 l2 : Option Value) (q : Nat) (st : List Value) (σ : dS), den mX7_isDone 57 [l0, l1, l2] (.ref q :: st) σ = (dget σ q 6 24).bind fun v => den mX7_isDone 60 [l0, l1, l2] (v :: st) σ) ∧
  (∀ (l0 l1 l2 : Option Value) (st : List Value) (σ : dS), den mX7_isDone 60 [l0, l1, l2] st σ = den mX7_isDone 61 [l0, l1, l2] (.int (nI 1) :: st) σ) ∧
  (∀ (l0 l1 l2 : Option Value) (x y : Int32) (st : List Value) (σ : dS), den mX7_isDone 61 [l0, l1, l2] (.int y :: .int x :: st) σ = den mX7_isDone 62 [l0, l1, l2] (.int (x - y) :: st) σ) ∧
  (∀ (l0 l1 l2 : Option Value) (x : Int32) (q : Nat) (st : List Value) (σ : dS), den mX7_isDone 62 [l0, l1, l2] (.int x :: .ref q :: st) σ = (dput σ q 6 24 (.int x)).bind fun τ => den mX7_isDone 65 [l0, l1, l2] st τ) ∧
  (∀ (l0 l1 l2 : Option Value) (st : List Value) (σ : dS), den mX7_isDone 65 [l0, l1, l2] st σ = den mX7_isDone 106 [l0, l1, l2] st σ) :=
  ⟨fun l1 l2 x st σ => dn_aload_n eX7_isDone dX7_isDone_0 rfl,
  fun l0 l2 x st σ => dn_iload_n eX7_isDone dX7_isDone_1 rfl,
  fun l0 l1 l2 st σ => dn_iconst eX7_isDone dX7_isDone_2 kc_iconst_0,
  fun l0 l1 l2 a0 a1 q σ => rX7_isDone_3 l0 l1 l2 a0 a1 q σ,
  fun l0 l2 x y st σ => dn_istore_n eX7_isDone dX7_isDone_6 rfl,
  fun l0 l1 x st σ => dn_iload_n eX7_isDone dX7_isDone_7 rfl,
  fun l0 l1 l2 x st σ => dn_if_ne eX7_isDone dX7_isDone_8 (by decide),
  fun l1 l2 x st σ => dn_aload_n eX7_isDone dX7_isDone_11 rfl,
  fun l0 l1 l2 q st σ => dn_getfield (f := (6, 18, 789)) eX7_isDone dX7_isDone_12 (by decide +kernel),
  fun l1 l2 x st σ => dn_aload_n eX7_isDone dX7_isDone_15 rfl,
  fun l0 l2 x st σ => dn_iload_n eX7_isDone dX7_isDone_16 rfl,
  fun l0 l1 l2 st σ => dn_iconst eX7_isDone dX7_isDone_17 kc_iconst_1,
  fun l0 l1 l2 a0 a1 b0 q σ => rX7_isDone_18 l0 l1 l2 a0 a1 b0 q σ,
  fun l1 l2 x st σ => dn_aload_n eX7_isDone dX7_isDone_21 rfl,
  fun l0 l2 x st σ => dn_iload_n eX7_isDone dX7_isDone_22 rfl,
  fun l0 l1 l2 st σ => dn_iconst eX7_isDone dX7_isDone_23 kc_iconst_2,
  fun l0 l1 l2 a0 a1 b0 b1 q σ => rX7_isDone_24 l0 l1 l2 a0 a1 b0 b1 q σ,
  fun l0 l1 l2 q i x st σ => dn_iastore eX7_isDone dX7_isDone_27,
  fun l0 l1 l2 st σ => dn_goto eX7_isDone dX7_isDone_28 (by decide),
  fun l0 l1 x st σ => dn_iload_n eX7_isDone dX7_isDone_31 rfl,
  fun l0 l1 l2 st σ => dn_iconst eX7_isDone dX7_isDone_32 kc_iconst_4,
  fun l0 l1 l2 x y st σ => dn_icmp_ne eX7_isDone dX7_isDone_33 (by decide),
  fun l1 l2 x st σ => dn_aload_n eX7_isDone dX7_isDone_36 rfl,
  fun l0 l1 l2 q st σ => dn_getfield (f := (6, 18, 789)) eX7_isDone dX7_isDone_37 (by decide +kernel),
  fun l1 l2 x st σ => dn_aload_n eX7_isDone dX7_isDone_40 rfl,
  fun l0 l2 x st σ => dn_iload_n eX7_isDone dX7_isDone_41 rfl,
  fun l0 l1 l2 st σ => dn_iconst eX7_isDone dX7_isDone_42 kc_iconst_3,
  fun l0 l1 l2 a0 a1 b0 q σ => rX7_isDone_43 l0 l1 l2 a0 a1 b0 q σ,
  fun l0 l1 l2 q i st σ => dn_iaload eX7_isDone dX7_isDone_46,
  fun l0 l1 l2 x st σ => dn_if_ne eX7_isDone dX7_isDone_47 (by decide),
  fun l1 l2 x st σ => dn_aload_n eX7_isDone dX7_isDone_50 rfl,
  fun l0 l2 x st σ => dn_iload_n eX7_isDone dX7_isDone_51 rfl,
  fun l0 l1 l2 x q st σ => dn_putfield (f := (6, 26, 797)) (ty := .int) eX7_isDone dX7_isDone_52 (by decide +kernel) (by decide +kernel) rfl,
  fun l1 l2 x st σ => dn_aload_n eX7_isDone dX7_isDone_55 rfl,
  fun l0 l1 l2 x st σ => dn_dup eX7_isDone dX7_isDone_56 rfl,
  fun l0 l1 l2 q st σ => dn_getfield (f := (6, 24, 795)) eX7_isDone dX7_isDone_57 (by decide +kernel),
  fun l0 l1 l2 st σ => dn_iconst eX7_isDone dX7_isDone_60 kc_iconst_1,
  fun l0 l1 l2 x y st σ => dn_isub eX7_isDone dX7_isDone_61,
  fun l0 l1 l2 x q st σ => dn_putfield (f := (6, 24, 795)) (ty := .int) eX7_isDone dX7_isDone_62 (by decide +kernel) (by decide +kernel) rfl,
  fun l0 l1 l2 st σ => dn_goto eX7_isDone dX7_isDone_65 (by decide)⟩
set_option maxRecDepth 20000 in
theorem SX7_isDone_1 : (∀ (l1 l2 : Option Value) (x : Nat) (st : List Value) (σ : dS), den mX7_isDone 68 [some (.ref x), l1, l2] st σ = den mX7_isDone 69 [some (.ref x), l1, l2] (.ref x :: st) σ) ∧
  (∀ (l0 l1 l2 : Option Value) (q : Nat) (st : List Value) (σ : dS), den mX7_isDone 69 [l0, l1, l2] (.ref q :: st) σ = (dget σ q 6 18).bind fun v => den mX7_isDone 72 [l0, l1, l2] (v :: st) σ) ∧
  (∀ (l1 l2 : Option Value) (x : Nat) (st : List Value) (σ : dS), den mX7_isDone 72 [some (.ref x), l1, l2] st σ = den mX7_isDone 73 [some (.ref x), l1, l2] (.ref x :: st) σ) ∧
  (∀ (l0 l2 : Option Value) (x : Int32) (st : List Value) (σ : dS), den mX7_isDone 73 [l0, some (.int x), l2] st σ = den mX7_isDone 74 [l0, some (.int x), l2] (.int x :: st) σ) ∧
  (∀ (l0 l1 l2 : Option Value) (st : List Value) (σ : dS), den mX7_isDone 74 [l0, l1, l2] st σ = den mX7_isDone 75 [l0, l1, l2] (.int (nI 1) :: st) σ) ∧
  (∀ (l0 l1 l2 : Option Value) (a0 : Int32) (a1 : Int32) (b0 : Nat) (q : Nat) (σ : dS), den mX7_isDone 75 [l0, l1, l2] [.int a1, .int a0, .ref q, .ref b0] σ = if disO σ q 6 = true then ((dcall mX7_of [.ref q, .int a0, .int a1] σ).bind fun r => den mX7_isDone 78 [l0, l1, l2] (r.1.toList ++ [.ref b0]) r.2) else none) ∧
  (∀ (l1 l2 : Option Value) (x : Nat) (st : List Value) (σ : dS), den mX7_isDone 78 [some (.ref x), l1, l2] st σ = den mX7_isDone 79 [some (.ref x), l1, l2] (.ref x :: st) σ) ∧
  (∀ (l0 l1 : Option Value) (x : Int32) (st : List Value) (σ : dS), den mX7_isDone 79 [l0, l1, some (.int x)] st σ = den mX7_isDone 80 [l0, l1, some (.int x)] (.int x :: st) σ) ∧
  (∀ (l1 l2 : Option Value) (x : Nat) (st : List Value) (σ : dS), den mX7_isDone 80 [some (.ref x), l1, l2] st σ = den mX7_isDone 81 [some (.ref x), l1, l2] (.ref x :: st) σ) ∧
  (∀ (l0 l1 l2 : Option Value) (q : Nat) (st : List Value) (σ : dS), den mX7_isDone 81 [l0, l1, l2] (.ref q :: st) σ = (dget σ q 6 18).bind fun v => den mX7_isDone 84 [l0, l1, l2] (v :: st) σ) ∧
  (∀ (l1 l2 : Option Value) (x : Nat) (st : List Value) (σ : dS), den mX7_isDone 84 [some (.ref x), l1, l2] st σ = den mX7_isDone 85 [some (.ref x), l1, l2] (.ref x :: st) σ) ∧
  (∀ (l0 l2 : Option Value) (x : Int32) (st : List Value) (σ : dS), den mX7_isDone 85 [l0, some (.int x), l2] st σ = den mX7_isDone 86 [l0, some (.int x), l2] (.int x :: st) σ) ∧
  (∀ (l0 l1 l2 : Option Value) (st : List Value) (σ : dS), den mX7_isDone 86 [l0, l1, l2] st σ = den mX7_isDone 87 [l0, l1, l2] (.int (nI 2) :: st) σ) ∧
  (∀ (l0 l1 l2 : Option Value) (a0 : Int32) (a1 : Int32) (b0 : Nat) (b1 : Int32) (b2 : Nat) (b3 : Int32) (b4 : Nat) (q : Nat) (σ : dS), den mX7_isDone 87 [l0, l1, l2] [.int a1, .int a0, .ref q, .ref b0, .int b1, .ref b2, .int b3, .ref b4] σ = if disO σ q 6 = true then ((dcall mX7_of [.ref q, .int a0, .int a1] σ).bind fun r => den mX7_isDone 90 [l0, l1, l2] (r.1.toList ++ [.ref b0, .int b1, .ref b2, .int b3, .ref b4]) r.2) else none) ∧
  (∀ (l0 l1 l2 : Option Value) (q : Nat) (i : Int32) (st : List Value) (σ : dS), den mX7_isDone 90 [l0, l1, l2] (.int i :: .ref q :: st) σ = if q ≤ dN then (dald σ q 0 i).bind (fun v => den mX7_isDone 91 [l0, l1, l2] (.int v :: st) σ) else none) ∧
  (∀ (l1 l2 : Option Value) (x : Nat) (st : List Value) (σ : dS), den mX7_isDone 91 [some (.ref x), l1, l2] st σ = den mX7_isDone 92 [some (.ref x), l1, l2] (.ref x :: st) σ) ∧
  (∀ (l0 l1 l2 : Option Value) (q : Nat) (st : List Value) (σ : dS), den mX7_isDone 92 [l0, l1, l2] (.ref q :: st) σ = (dget σ q 6 18).bind fun v => den mX7_isDone 95 [l0, l1, l2] (v :: st) σ) ∧
  (∀ (l1 l2 : Option Value) (x : Nat) (st : List Value) (σ : dS), den mX7_isDone 95 [some (.ref x), l1, l2] st σ = den mX7_isDone 96 [some (.ref x), l1, l2] (.ref x :: st) σ) ∧
  (∀ (l0 l2 : Option Value) (x : Int32) (st : List Value) (σ : dS), den mX7_isDone 96 [l0, some (.int x), l2] st σ = den mX7_isDone 97 [l0, some (.int x), l2] (.int x :: st) σ) ∧
  (∀ (l0 l1 l2 : Option Value) (st : List Value) (σ : dS), den mX7_isDone 97 [l0, l1, l2] st σ = den mX7_isDone 98 [l0, l1, l2] (.int (nI 3) :: st) σ) ∧
  (∀ (l0 l1 l2 : Option Value) (a0 : Int32) (a1 : Int32) (b0 : Nat) (b1 : Int32) (b2 : Int32) (b3 : Nat) (b4 : Int32) (b5 : Nat) (q : Nat) (σ : dS), den mX7_isDone 98 [l0, l1, l2] [.int a1, .int a0, .ref q, .ref b0, .int b1, .int b2, .ref b3, .int b4, .ref b5] σ = if disO σ q 6 = true then ((dcall mX7_of [.ref q, .int a0, .int a1] σ).bind fun r => den mX7_isDone 101 [l0, l1, l2] (r.1.toList ++ [.ref b0, .int b1, .int b2, .ref b3, .int b4, .ref b5]) r.2) else none) ∧
  (∀ (l0 l1 l2 : Option Value) (q : Nat) (i : Int32) (st : List Value) (σ : dS), den mX7_isDone 101 [l0, l1, l2] (.int i :: .ref q :: st) σ = if q ≤ dN then (dald σ q 0 i).bind (fun v => den mX7_isDone 102 [l0, l1, l2] (.int v :: st) σ) else none) ∧
  (∀ (l0 l1 l2 : Option Value) (a0 : Int32) (a1 : Int32) (a2 : Int32) (b0 : Int32) (b1 : Nat) (q : Nat) (σ : dS), den mX7_isDone 102 [l0, l1, l2] [.int a2, .int a1, .int a0, .ref q, .int b0, .ref b1] σ = if disO σ q 6 = true then ((dcall mX7_brought [.ref q, .int a0, .int a1, .int a2] σ).bind fun r => den mX7_isDone 105 [l0, l1, l2] (r.1.toList ++ [.int b0, .ref b1]) r.2) else none) ∧
  (∀ (l0 l1 l2 : Option Value) (q : Nat) (i x : Int32) (st : List Value) (σ : dS), den mX7_isDone 105 [l0, l1, l2] (.int x :: .int i :: .ref q :: st) σ = (dast σ q 0 i x).bind fun τ => den mX7_isDone 106 [l0, l1, l2] st τ) ∧
  (∀ (l1 l2 : Option Value) (x : Nat) (st : List Value) (σ : dS), den mX7_isDone 106 [some (.ref x), l1, l2] st σ = den mX7_isDone 107 [some (.ref x), l1, l2] (.ref x :: st) σ) ∧
  (∀ (l0 l1 l2 : Option Value) (x : Nat) (st : List Value) (σ : dS), den mX7_isDone 107 [l0, l1, l2] (.ref x :: st) σ = den mX7_isDone 108 [l0, l1, l2] (.ref x :: .ref x :: st) σ) ∧
  (∀ (l0 l1 l2 : Option Value) (q : Nat) (st : List Value) (σ : dS), den mX7_isDone 108 [l0, l1, l2] (.ref q :: st) σ = (dget σ q 6 24).bind fun v => den mX7_isDone 111 [l0, l1, l2] (v :: st) σ) ∧
  (∀ (l0 l1 l2 : Option Value) (st : List Value) (σ : dS), den mX7_isDone 111 [l0, l1, l2] st σ = den mX7_isDone 112 [l0, l1, l2] (.int (nI 1) :: st) σ) ∧
  (∀ (l0 l1 l2 : Option Value) (x y : Int32) (st : List Value) (σ : dS), den mX7_isDone 112 [l0, l1, l2] (.int y :: .int x :: st) σ = den mX7_isDone 113 [l0, l1, l2] (.int (x + y) :: st) σ) ∧
  (∀ (l0 l1 l2 : Option Value) (x : Int32) (q : Nat) (st : List Value) (σ : dS), den mX7_isDone 113 [l0, l1, l2] (.int x :: .ref q :: st) σ = (dput σ q 6 24 (.int x)).bind fun τ => den mX7_isDone 116 [l0, l1, l2] st τ) ∧
  (∀ (l0 l1 l2 : Option Value) (σ : dS), den mX7_isDone 116 [l0, l1, l2] [] σ = some (none, σ)) :=
  ⟨fun l1 l2 x st σ => dn_aload_n eX7_isDone dX7_isDone_68 rfl,
  fun l0 l1 l2 q st σ => dn_getfield (f := (6, 18, 789)) eX7_isDone dX7_isDone_69 (by decide +kernel),
  fun l1 l2 x st σ => dn_aload_n eX7_isDone dX7_isDone_72 rfl,
  fun l0 l2 x st σ => dn_iload_n eX7_isDone dX7_isDone_73 rfl,
  fun l0 l1 l2 st σ => dn_iconst eX7_isDone dX7_isDone_74 kc_iconst_1,
  fun l0 l1 l2 a0 a1 b0 q σ => rX7_isDone_75 l0 l1 l2 a0 a1 b0 q σ,
  fun l1 l2 x st σ => dn_aload_n eX7_isDone dX7_isDone_78 rfl,
  fun l0 l1 x st σ => dn_iload_n eX7_isDone dX7_isDone_79 rfl,
  fun l1 l2 x st σ => dn_aload_n eX7_isDone dX7_isDone_80 rfl,
  fun l0 l1 l2 q st σ => dn_getfield (f := (6, 18, 789)) eX7_isDone dX7_isDone_81 (by decide +kernel),
  fun l1 l2 x st σ => dn_aload_n eX7_isDone dX7_isDone_84 rfl,
  fun l0 l2 x st σ => dn_iload_n eX7_isDone dX7_isDone_85 rfl,
  fun l0 l1 l2 st σ => dn_iconst eX7_isDone dX7_isDone_86 kc_iconst_2,
  fun l0 l1 l2 a0 a1 b0 b1 b2 b3 b4 q σ => rX7_isDone_87 l0 l1 l2 a0 a1 b0 b1 b2 b3 b4 q σ,
  fun l0 l1 l2 q i st σ => dn_iaload eX7_isDone dX7_isDone_90,
  fun l1 l2 x st σ => dn_aload_n eX7_isDone dX7_isDone_91 rfl,
  fun l0 l1 l2 q st σ => dn_getfield (f := (6, 18, 789)) eX7_isDone dX7_isDone_92 (by decide +kernel),
  fun l1 l2 x st σ => dn_aload_n eX7_isDone dX7_isDone_95 rfl,
  fun l0 l2 x st σ => dn_iload_n eX7_isDone dX7_isDone_96 rfl,
  fun l0 l1 l2 st σ => dn_iconst eX7_isDone dX7_isDone_97 kc_iconst_3,
  fun l0 l1 l2 a0 a1 b0 b1 b2 b3 b4 b5 q σ => rX7_isDone_98 l0 l1 l2 a0 a1 b0 b1 b2 b3 b4 b5 q σ,
  fun l0 l1 l2 q i st σ => dn_iaload eX7_isDone dX7_isDone_101,
  fun l0 l1 l2 a0 a1 a2 b0 b1 q σ => rX7_isDone_102 l0 l1 l2 a0 a1 a2 b0 b1 q σ,
  fun l0 l1 l2 q i x st σ => dn_iastore eX7_isDone dX7_isDone_105,
  fun l1 l2 x st σ => dn_aload_n eX7_isDone dX7_isDone_106 rfl,
  fun l0 l1 l2 x st σ => dn_dup eX7_isDone dX7_isDone_107 rfl,
  fun l0 l1 l2 q st σ => dn_getfield (f := (6, 24, 795)) eX7_isDone dX7_isDone_108 (by decide +kernel),
  fun l0 l1 l2 st σ => dn_iconst eX7_isDone dX7_isDone_111 kc_iconst_1,
  fun l0 l1 l2 x y st σ => dn_iadd eX7_isDone dX7_isDone_112,
  fun l0 l1 l2 x q st σ => dn_putfield (f := (6, 24, 795)) (ty := .int) eX7_isDone dX7_isDone_113 (by decide +kernel) (by decide +kernel) rfl,
  fun l0 l1 l2 σ => dn_return eX7_isDone dX7_isDone_116 rfl⟩
theorem CX7_ifComes (a0 : Nat) (a1 : Int32) (a2 : Int32) (a3 : Int32) (a4 : Int32) (σ : dS) : dcall mX7_ifComes [.ref a0, .int a1, .int a2, .int a3, .int a4] σ = den mX7_ifComes 0 [some (.ref a0), some (.int a1), some (.int a2), some (.int a3), some (.int a4), none] [] σ := dcall_den (by decide) rfl
theorem rX7_ifComes_7 (l0 l1 l2 l3 l4 l5 : Option Value) (a0 : Int32) (a1 : Int32) (b0 : Nat) (q : Nat) (σ : dS) : den mX7_ifComes 7 [l0, l1, l2, l3, l4, l5] [.int a1, .int a0, .ref q, .ref b0] σ = if disO σ q 6 = true then ((dcall mX7_of [.ref q, .int a0, .int a1] σ).bind fun r => den mX7_ifComes 10 [l0, l1, l2, l3, l4, l5] (r.1.toList ++ [.ref b0]) r.2) else none := by
  by_cases h : disO σ q 6 = true
  · rw [if_pos h]; exact dn_callV (e := (0, 120, 947)) (as := [.int a0, .int a1]) (rest := [.ref b0]) eX7_ifComes dX7_ifComes_7 (by decide +kernel) rfl (by decide +kernel) rfl (dcat_le rfl) (dlen_le rfl) rfl h
  · rw [if_neg h]; exact den_noV (e := (0, 120, 947)) (as := [.int a0, .int a1]) (rest := [.ref b0]) eX7_ifComes dX7_ifComes_7 (by decide +kernel) rfl rfl rfl h
set_option maxRecDepth 20000 in
theorem SX7_ifComes_0 : (∀ (l1 l2 l3 l4 l5 : Option Value) (x : Nat) (st : List Value) (σ : dS), den mX7_ifComes 0 [some (.ref x), l1, l2, l3, l4, l5] st σ = den mX7_ifComes 1 [some (.ref x), l1, l2, l3, l4, l5] (.ref x :: st) σ) ∧
  (∀ (l0 l1 l2 l3 l4 l5 : Option Value) (q : Nat) (st : List Value) (σ : dS), den mX7_ifComes 1 [l0, l1, l2, l3, l4, l5] (.ref q :: st) σ = (dget σ q 6 18).bind fun v => den mX7_ifComes 4 [l0, l1, l2, l3, l4, l5] (v :: st) σ) ∧
  (∀ (l1 l2 l3 l4 l5 : Option Value) (x : Nat) (st : List Value) (σ : dS), den mX7_ifComes 4 [some (.ref x), l1, l2, l3, l4, l5] st σ = den mX7_ifComes 5 [some (.ref x), l1, l2, l3, l4, l5] (.ref x :: st) σ) ∧
  (∀ (l0 l2 l3 l4 l5 : Option Value) (x : Int32) (st : List Value) (σ : dS), den mX7_ifComes 5 [l0, some (.int x), l2, l3, l4, l5] st σ = den mX7_ifComes 6 [l0, some (.int x), l2, l3, l4, l5] (.int x :: st) σ) ∧
  (∀ (l0 l1 l2 l3 l4 l5 : Option Value) (st : List Value) (σ : dS), den mX7_ifComes 6 [l0, l1, l2, l3, l4, l5] st σ = den mX7_ifComes 7 [l0, l1, l2, l3, l4, l5] (.int (nI 1) :: st) σ) ∧
  (∀ (l0 l1 l2 l3 l4 l5 : Option Value) (a0 : Int32) (a1 : Int32) (b0 : Nat) (q : Nat) (σ : dS), den mX7_ifComes 7 [l0, l1, l2, l3, l4, l5] [.int a1, .int a0, .ref q, .ref b0] σ = if disO σ q 6 = true then ((dcall mX7_of [.ref q, .int a0, .int a1] σ).bind fun r => den mX7_ifComes 10 [l0, l1, l2, l3, l4, l5] (r.1.toList ++ [.ref b0]) r.2) else none) ∧
  (∀ (l0 l1 l2 l3 l4 l5 : Option Value) (q : Nat) (i : Int32) (st : List Value) (σ : dS), den mX7_ifComes 10 [l0, l1, l2, l3, l4, l5] (.int i :: .ref q :: st) σ = if q ≤ dN then (dald σ q 0 i).bind (fun v => den mX7_ifComes 11 [l0, l1, l2, l3, l4, l5] (.int v :: st) σ) else none) ∧
  (∀ (l0 l1 l2 l3 l4 l5 : Option Value) (x : Int32) (st : List Value) (σ : dS), den mX7_ifComes 11 [l0, l1, l2, l3, l4, l5] (.int x :: st) σ = if 0 < x then den mX7_ifComes 14 [l0, l1, l2, l3, l4, l5] st σ else den mX7_ifComes 18 [l0, l1, l2, l3, l4, l5] st σ) ∧
  (∀ (l0 l1 l2 l3 l4 l5 : Option Value) (st : List Value) (σ : dS), den mX7_ifComes 14 [l0, l1, l2, l3, l4, l5] st σ = den mX7_ifComes 15 [l0, l1, l2, l3, l4, l5] (.int (nI 1) :: st) σ) ∧
  (∀ (l0 l1 l2 l3 l4 l5 : Option Value) (st : List Value) (σ : dS), den mX7_ifComes 15 [l0, l1, l2, l3, l4, l5] st σ = den mX7_ifComes 19 [l0, l1, l2, l3, l4, l5] st σ) ∧
  (∀ (l0 l1 l2 l3 l4 l5 : Option Value) (st : List Value) (σ : dS), den mX7_ifComes 18 [l0, l1, l2, l3, l4, l5] st σ = den mX7_ifComes 19 [l0, l1, l2, l3, l4, l5] (.int (nI 0) :: st) σ) ∧
  (∀ (l0 l1 l2 l3 l5 : Option Value) (x : Int32) (y : Int32) (st : List Value) (σ : dS), den mX7_ifComes 19 [l0, l1, l2, l3, some (.int y), l5] (.int x :: st) σ = den mX7_ifComes 21 [l0, l1, l2, l3, some (.int y), some (.int x)] st σ) ∧
  (∀ (l1 l2 l3 l4 l5 : Option Value) (x : Nat) (st : List Value) (σ : dS), den mX7_ifComes 21 [some (.ref x), l1, l2, l3, l4, l5] st σ = den mX7_ifComes 22 [some (.ref x), l1, l2, l3, l4, l5] (.ref x :: st) σ) ∧
  (∀ (l0 l1 l2 l3 l4 l5 : Option Value) (q : Nat) (st : List Value) (σ : dS), den mX7_ifComes 22 [l0, l1, l2, l3, l4, l5] (.ref q :: st) σ = (dget σ q 6 22).bind fun v => den mX7_ifComes 25 [l0, l1, l2, l3, l4, l5] (v :: st) σ) ∧
  (∀ (l0 l1 l2 l3 l4 l5 : Option Value) (st : List Value) (σ : dS), den mX7_ifComes 25 [l0, l1, l2, l3, l4, l5] st σ = den mX7_ifComes 26 [l0, l1, l2, l3, l4, l5] (.int (nI 2) :: st) σ) ∧
  (∀ (l0 l1 l3 l4 l5 : Option Value) (x : Int32) (st : List Value) (σ : dS), den mX7_ifComes 26 [l0, l1, some (.int x), l3, l4, l5] st σ = den mX7_ifComes 27 [l0, l1, some (.int x), l3, l4, l5] (.int x :: st) σ) ∧
  (∀ (l0 l1 l2 l3 l4 l5 : Option Value) (x y : Int32) (st : List Value) (σ : dS), den mX7_ifComes 27 [l0, l1, l2, l3, l4, l5] (.int y :: .int x :: st) σ = den mX7_ifComes 28 [l0, l1, l2, l3, l4, l5] (.int (x * y) :: st) σ) ∧
  (∀ (l0 l1 l2 l3 l4 l5 : Option Value) (st : List Value) (σ : dS), den mX7_ifComes 28 [l0, l1, l2, l3, l4, l5] st σ = den mX7_ifComes 29 [l0, l1, l2, l3, l4, l5] (.int (nI 1) :: st) σ) ∧
  (∀ (l0 l1 l2 l3 l4 l5 : Option Value) (x y : Int32) (st : List Value) (σ : dS), den mX7_ifComes 29 [l0, l1, l2, l3, l4, l5] (.int y :: .int x :: st) σ = den mX7_ifComes 30 [l0, l1, l2, l3, l4, l5] (.int (x + y) :: st) σ) ∧
  (∀ (l0 l1 l2 l4 l5 : Option Value) (x : Int32) (st : List Value) (σ : dS), den mX7_ifComes 30 [l0, l1, l2, some (.int x), l4, l5] st σ = den mX7_ifComes 31 [l0, l1, l2, some (.int x), l4, l5] (.int x :: st) σ) ∧
  (∀ (l0 l1 l2 l3 l4 l5 : Option Value) (x : Int32) (st : List Value) (σ : dS), den mX7_ifComes 31 [l0, l1, l2, l3, l4, l5] (.int x :: st) σ = if x = 0 then den mX7_ifComes 43 [l0, l1, l2, l3, l4, l5] st σ else den mX7_ifComes 34 [l0, l1, l2, l3, l4, l5] st σ) ∧
  (∀ (l0 l1 l2 l3 l4 : Option Value) (x : Int32) (st : List Value) (σ : dS), den mX7_ifComes 34 [l0, l1, l2, l3, l4, some (.int x)] st σ = den mX7_ifComes 36 [l0, l1, l2, l3, l4, some (.int x)] (.int x :: st) σ) ∧
  (∀ (l0 l1 l2 l3 l4 l5 : Option Value) (x : Int32) (st : List Value) (σ : dS), den mX7_ifComes 36 [l0, l1, l2, l3, l4, l5] (.int x :: st) σ = if x = 0 then den mX7_ifComes 43 [l0, l1, l2, l3, l4, l5] st σ else den mX7_ifComes 39 [l0, l1, l2, l3, l4, l5] st σ) ∧
  (∀ (l0 l1 l2 l3 l4 l5 : Option Value) (st : List Value) (σ : dS), den mX7_ifComes 39 [l0, l1, l2, l3, l4, l5] st σ = den mX7_ifComes 40 [l0, l1, l2, l3, l4, l5] (.int (nI 1) :: st) σ) ∧
  (∀ (l0 l1 l2 l3 l4 l5 : Option Value) (st : List Value) (σ : dS), den mX7_ifComes 40 [l0, l1, l2, l3, l4, l5] st σ = den mX7_ifComes 44 [l0, l1, l2, l3, l4, l5] st σ) ∧
  (∀ (l0 l1 l2 l3 l4 l5 : Option Value) (st : List Value) (σ : dS), den mX7_ifComes 43 [l0, l1, l2, l3, l4, l5] st σ = den mX7_ifComes 44 [l0, l1, l2, l3, l4, l5] (.int (nI 0) :: st) σ) ∧
  (∀ (l0 l1 l2 l3 l4 l5 : Option Value) (q : Nat) (i x : Int32) (st : List Value) (σ : dS), den mX7_ifComes 44 [l0, l1, l2, l3, l4, l5] (.int x :: .int i :: .ref q :: st) σ = (dbst σ q i x).bind fun τ => den mX7_ifComes 45 [l0, l1, l2, l3, l4, l5] st τ) ∧
  (∀ (l1 l2 l3 l4 l5 : Option Value) (x : Nat) (st : List Value) (σ : dS), den mX7_ifComes 45 [some (.ref x), l1, l2, l3, l4, l5] st σ = den mX7_ifComes 46 [some (.ref x), l1, l2, l3, l4, l5] (.ref x :: st) σ) ∧
  (∀ (l0 l1 l2 l3 l4 l5 : Option Value) (q : Nat) (st : List Value) (σ : dS), den mX7_ifComes 46 [l0, l1, l2, l3, l4, l5] (.ref q :: st) σ = (dget σ q 6 22).bind fun v => den mX7_ifComes 49 [l0, l1, l2, l3, l4, l5] (v :: st) σ) ∧
  (∀ (l0 l1 l2 l3 l4 l5 : Option Value) (st : List Value) (σ : dS), den mX7_ifComes 49 [l0, l1, l2, l3, l4, l5] st σ = den mX7_ifComes 50 [l0, l1, l2, l3, l4, l5] (.int (nI 2) :: st) σ) ∧
  (∀ (l0 l1 l3 l4 l5 : Option Value) (x : Int32) (st : List Value) (σ : dS), den mX7_ifComes 50 [l0, l1, some (.int x), l3, l4, l5] st σ = den mX7_ifComes 51 [l0, l1, some (.int x), l3, l4, l5] (.int x :: st) σ) ∧
  (∀ (l0 l1 l2 l3 l4 l5 : Option Value) (x y : Int32) (st : List Value) (σ : dS), den mX7_ifComes 51 [l0, l1, l2, l3, l4, l5] (.int y :: .int x :: st) σ = den mX7_ifComes 52 [l0, l1, l2, l3, l4, l5] (.int (x * y) :: st) σ) ∧
  (∀ (l0 l1 l2 l3 l4 l5 : Option Value) (st : List Value) (σ : dS), den mX7_ifComes 52 [l0, l1, l2, l3, l4, l5] st σ = den mX7_ifComes 53 [l0, l1, l2, l3, l4, l5] (.int (nI 2) :: st) σ) ∧
  (∀ (l0 l1 l2 l3 l4 l5 : Option Value) (x y : Int32) (st : List Value) (σ : dS), den mX7_ifComes 53 [l0, l1, l2, l3, l4, l5] (.int y :: .int x :: st) σ = den mX7_ifComes 54 [l0, l1, l2, l3, l4, l5] (.int (x + y) :: st) σ) ∧
  (∀ (l0 l1 l2 l4 l5 : Option Value) (x : Int32) (st : List Value) (σ : dS), den mX7_ifComes 54 [l0, l1, l2, some (.int x), l4, l5] st σ = den mX7_ifComes 55 [l0, l1, l2, some (.int x), l4, l5] (.int x :: st) σ) ∧
  (∀ (l0 l1 l2 l3 l4 l5 : Option Value) (x : Int32) (st : List Value) (σ : dS), den mX7_ifComes 55 [l0, l1, l2, l3, l4, l5] (.int x :: st) σ = if x = 0 then den mX7_ifComes 67 [l0, l1, l2, l3, l4, l5] st σ else den mX7_ifComes 58 [l0, l1, l2, l3, l4, l5] st σ) ∧
  (∀ (l0 l1 l2 l3 l4 : Option Value) (x : Int32) (st : List Value) (σ : dS), den mX7_ifComes 58 [l0, l1, l2, l3, l4, some (.int x)] st σ = den mX7_ifComes 60 [l0, l1, l2, l3, l4, some (.int x)] (.int x :: st) σ) ∧
  (∀ (l0 l1 l2 l3 l4 l5 : Option Value) (x : Int32) (st : List Value) (σ : dS), den mX7_ifComes 60 [l0, l1, l2, l3, l4, l5] (.int x :: st) σ = if x = 0 then den mX7_ifComes 63 [l0, l1, l2, l3, l4, l5] st σ else den mX7_ifComes 67 [l0, l1, l2, l3, l4, l5] st σ) ∧
  (∀ (l0 l1 l2 l3 l4 l5 : Option Value) (st : List Value) (σ : dS), den mX7_ifComes 63 [l0, l1, l2, l3, l4, l5] st σ = den mX7_ifComes 64 [l0, l1, l2, l3, l4, l5] (.int (nI 1) :: st) σ) ∧
  (∀ (l0 l1 l2 l3 l4 l5 : Option Value) (st : List Value) (σ : dS), den mX7_ifComes 64 [l0, l1, l2, l3, l4, l5] st σ = den mX7_ifComes 68 [l0, l1, l2, l3, l4, l5] st σ) :=
  ⟨fun l1 l2 l3 l4 l5 x st σ => dn_aload_n eX7_ifComes dX7_ifComes_0 rfl,
  fun l0 l1 l2 l3 l4 l5 q st σ => dn_getfield (f := (6, 18, 789)) eX7_ifComes dX7_ifComes_1 (by decide +kernel),
  fun l1 l2 l3 l4 l5 x st σ => dn_aload_n eX7_ifComes dX7_ifComes_4 rfl,
  fun l0 l2 l3 l4 l5 x st σ => dn_iload_n eX7_ifComes dX7_ifComes_5 rfl,
  fun l0 l1 l2 l3 l4 l5 st σ => dn_iconst eX7_ifComes dX7_ifComes_6 kc_iconst_1,
  fun l0 l1 l2 l3 l4 l5 a0 a1 b0 q σ => rX7_ifComes_7 l0 l1 l2 l3 l4 l5 a0 a1 b0 q σ,
  fun l0 l1 l2 l3 l4 l5 q i st σ => dn_iaload eX7_ifComes dX7_ifComes_10,
  fun l0 l1 l2 l3 l4 l5 x st σ => dn_if_le eX7_ifComes dX7_ifComes_11 (by decide),
  fun l0 l1 l2 l3 l4 l5 st σ => dn_iconst eX7_ifComes dX7_ifComes_14 kc_iconst_1,
  fun l0 l1 l2 l3 l4 l5 st σ => dn_goto eX7_ifComes dX7_ifComes_15 (by decide),
  fun l0 l1 l2 l3 l4 l5 st σ => dn_iconst eX7_ifComes dX7_ifComes_18 kc_iconst_0,
  fun l0 l1 l2 l3 l5 x y st σ => dn_istore eX7_ifComes dX7_ifComes_19 rfl,
  fun l1 l2 l3 l4 l5 x st σ => dn_aload_n eX7_ifComes dX7_ifComes_21 rfl,
  fun l0 l1 l2 l3 l4 l5 q st σ => dn_getfield (f := (6, 22, 793)) eX7_ifComes dX7_ifComes_22 (by decide +kernel),
  fun l0 l1 l2 l3 l4 l5 st σ => dn_iconst eX7_ifComes dX7_ifComes_25 kc_iconst_2,
  fun l0 l1 l3 l4 l5 x st σ => dn_iload_n eX7_ifComes dX7_ifComes_26 rfl,
  fun l0 l1 l2 l3 l4 l5 x y st σ => dn_imul eX7_ifComes dX7_ifComes_27,
  fun l0 l1 l2 l3 l4 l5 st σ => dn_iconst eX7_ifComes dX7_ifComes_28 kc_iconst_1,
  fun l0 l1 l2 l3 l4 l5 x y st σ => dn_iadd eX7_ifComes dX7_ifComes_29,
  fun l0 l1 l2 l4 l5 x st σ => dn_iload_n eX7_ifComes dX7_ifComes_30 rfl,
  fun l0 l1 l2 l3 l4 l5 x st σ => dn_if_eq eX7_ifComes dX7_ifComes_31 (by decide),
  fun l0 l1 l2 l3 l4 x st σ => dn_iload eX7_ifComes dX7_ifComes_34 rfl,
  fun l0 l1 l2 l3 l4 l5 x st σ => dn_if_eq eX7_ifComes dX7_ifComes_36 (by decide),
  fun l0 l1 l2 l3 l4 l5 st σ => dn_iconst eX7_ifComes dX7_ifComes_39 kc_iconst_1,
  fun l0 l1 l2 l3 l4 l5 st σ => dn_goto eX7_ifComes dX7_ifComes_40 (by decide),
  fun l0 l1 l2 l3 l4 l5 st σ => dn_iconst eX7_ifComes dX7_ifComes_43 kc_iconst_0,
  fun l0 l1 l2 l3 l4 l5 q i x st σ => dn_bastore eX7_ifComes dX7_ifComes_44,
  fun l1 l2 l3 l4 l5 x st σ => dn_aload_n eX7_ifComes dX7_ifComes_45 rfl,
  fun l0 l1 l2 l3 l4 l5 q st σ => dn_getfield (f := (6, 22, 793)) eX7_ifComes dX7_ifComes_46 (by decide +kernel),
  fun l0 l1 l2 l3 l4 l5 st σ => dn_iconst eX7_ifComes dX7_ifComes_49 kc_iconst_2,
  fun l0 l1 l3 l4 l5 x st σ => dn_iload_n eX7_ifComes dX7_ifComes_50 rfl,
  fun l0 l1 l2 l3 l4 l5 x y st σ => dn_imul eX7_ifComes dX7_ifComes_51,
  fun l0 l1 l2 l3 l4 l5 st σ => dn_iconst eX7_ifComes dX7_ifComes_52 kc_iconst_2,
  fun l0 l1 l2 l3 l4 l5 x y st σ => dn_iadd eX7_ifComes dX7_ifComes_53,
  fun l0 l1 l2 l4 l5 x st σ => dn_iload_n eX7_ifComes dX7_ifComes_54 rfl,
  fun l0 l1 l2 l3 l4 l5 x st σ => dn_if_eq eX7_ifComes dX7_ifComes_55 (by decide),
  fun l0 l1 l2 l3 l4 x st σ => dn_iload eX7_ifComes dX7_ifComes_58 rfl,
  fun l0 l1 l2 l3 l4 l5 x st σ => dn_if_ne eX7_ifComes dX7_ifComes_60 (by decide),
  fun l0 l1 l2 l3 l4 l5 st σ => dn_iconst eX7_ifComes dX7_ifComes_63 kc_iconst_1,
  fun l0 l1 l2 l3 l4 l5 st σ => dn_goto eX7_ifComes dX7_ifComes_64 (by decide)⟩
set_option maxRecDepth 20000 in
theorem SX7_ifComes_1 : (∀ (l0 l1 l2 l3 l4 l5 : Option Value) (st : List Value) (σ : dS), den mX7_ifComes 67 [l0, l1, l2, l3, l4, l5] st σ = den mX7_ifComes 68 [l0, l1, l2, l3, l4, l5] (.int (nI 0) :: st) σ) ∧
  (∀ (l0 l1 l2 l3 l4 l5 : Option Value) (q : Nat) (i x : Int32) (st : List Value) (σ : dS), den mX7_ifComes 68 [l0, l1, l2, l3, l4, l5] (.int x :: .int i :: .ref q :: st) σ = (dbst σ q i x).bind fun τ => den mX7_ifComes 69 [l0, l1, l2, l3, l4, l5] st τ) ∧
  (∀ (l1 l2 l3 l4 l5 : Option Value) (x : Nat) (st : List Value) (σ : dS), den mX7_ifComes 69 [some (.ref x), l1, l2, l3, l4, l5] st σ = den mX7_ifComes 70 [some (.ref x), l1, l2, l3, l4, l5] (.ref x :: st) σ) ∧
  (∀ (l0 l1 l2 l3 l4 l5 : Option Value) (q : Nat) (st : List Value) (σ : dS), den mX7_ifComes 70 [l0, l1, l2, l3, l4, l5] (.ref q :: st) σ = (dget σ q 6 23).bind fun v => den mX7_ifComes 73 [l0, l1, l2, l3, l4, l5] (v :: st) σ) ∧
  (∀ (l0 l1 l3 l4 l5 : Option Value) (x : Int32) (st : List Value) (σ : dS), den mX7_ifComes 73 [l0, l1, some (.int x), l3, l4, l5] st σ = den mX7_ifComes 74 [l0, l1, some (.int x), l3, l4, l5] (.int x :: st) σ) ∧
  (∀ (l0 l1 l2 l3 l5 : Option Value) (x : Int32) (st : List Value) (σ : dS), den mX7_ifComes 74 [l0, l1, l2, l3, some (.int x), l5] st σ = den mX7_ifComes 76 [l0, l1, l2, l3, some (.int x), l5] (.int x :: st) σ) ∧
  (∀ (l0 l1 l2 l3 l4 l5 : Option Value) (x : Int32) (st : List Value) (σ : dS), den mX7_ifComes 76 [l0, l1, l2, l3, l4, l5] (.int x :: st) σ = if x = 0 then den mX7_ifComes 92 [l0, l1, l2, l3, l4, l5] st σ else den mX7_ifComes 79 [l0, l1, l2, l3, l4, l5] st σ) ∧
  (∀ (l1 l2 l3 l4 l5 : Option Value) (x : Nat) (st : List Value) (σ : dS), den mX7_ifComes 79 [some (.ref x), l1, l2, l3, l4, l5] st σ = den mX7_ifComes 80 [some (.ref x), l1, l2, l3, l4, l5] (.ref x :: st) σ) ∧
  (∀ (l0 l1 l2 l3 l4 l5 : Option Value) (q : Nat) (st : List Value) (σ : dS), den mX7_ifComes 80 [l0, l1, l2, l3, l4, l5] (.ref q :: st) σ = (dget σ q 6 17).bind fun v => den mX7_ifComes 83 [l0, l1, l2, l3, l4, l5] (v :: st) σ) ∧
  (∀ (l0 l1 l3 l4 l5 : Option Value) (x : Int32) (st : List Value) (σ : dS), den mX7_ifComes 83 [l0, l1, some (.int x), l3, l4, l5] st σ = den mX7_ifComes 84 [l0, l1, some (.int x), l3, l4, l5] (.int x :: st) σ) ∧
  (∀ (l0 l1 l2 l3 l4 l5 : Option Value) (q : Nat) (i : Int32) (st : List Value) (σ : dS), den mX7_ifComes 84 [l0, l1, l2, l3, l4, l5] (.int i :: .ref q :: st) σ = (dbld σ q i).bind fun v => den mX7_ifComes 85 [l0, l1, l2, l3, l4, l5] (.int v :: st) σ) ∧
  (∀ (l0 l1 l2 l3 l4 l5 : Option Value) (x : Int32) (st : List Value) (σ : dS), den mX7_ifComes 85 [l0, l1, l2, l3, l4, l5] (.int x :: st) σ = if x = 0 then den mX7_ifComes 92 [l0, l1, l2, l3, l4, l5] st σ else den mX7_ifComes 88 [l0, l1, l2, l3, l4, l5] st σ) ∧
  (∀ (l0 l1 l2 l3 l4 l5 : Option Value) (st : List Value) (σ : dS), den mX7_ifComes 88 [l0, l1, l2, l3, l4, l5] st σ = den mX7_ifComes 89 [l0, l1, l2, l3, l4, l5] (.int (nI 1) :: st) σ) ∧
  (∀ (l0 l1 l2 l3 l4 l5 : Option Value) (st : List Value) (σ : dS), den mX7_ifComes 89 [l0, l1, l2, l3, l4, l5] st σ = den mX7_ifComes 93 [l0, l1, l2, l3, l4, l5] st σ) ∧
  (∀ (l0 l1 l2 l3 l4 l5 : Option Value) (st : List Value) (σ : dS), den mX7_ifComes 92 [l0, l1, l2, l3, l4, l5] st σ = den mX7_ifComes 93 [l0, l1, l2, l3, l4, l5] (.int (nI 0) :: st) σ) ∧
  (∀ (l0 l1 l2 l3 l4 l5 : Option Value) (q : Nat) (i x : Int32) (st : List Value) (σ : dS), den mX7_ifComes 93 [l0, l1, l2, l3, l4, l5] (.int x :: .int i :: .ref q :: st) σ = (dbst σ q i x).bind fun τ => den mX7_ifComes 94 [l0, l1, l2, l3, l4, l5] st τ) ∧
  (∀ (l1 l2 l3 l4 l5 : Option Value) (x : Nat) (st : List Value) (σ : dS), den mX7_ifComes 94 [some (.ref x), l1, l2, l3, l4, l5] st σ = den mX7_ifComes 95 [some (.ref x), l1, l2, l3, l4, l5] (.ref x :: st) σ) ∧
  (∀ (l0 l1 l2 l3 l4 l5 : Option Value) (x : Nat) (st : List Value) (σ : dS), den mX7_ifComes 95 [l0, l1, l2, l3, l4, l5] (.ref x :: st) σ = den mX7_ifComes 96 [l0, l1, l2, l3, l4, l5] (.ref x :: .ref x :: st) σ) ∧
  (∀ (l0 l1 l2 l3 l4 l5 : Option Value) (q : Nat) (st : List Value) (σ : dS), den mX7_ifComes 96 [l0, l1, l2, l3, l4, l5] (.ref q :: st) σ = (dget σ q 6 24).bind fun v => den mX7_ifComes 99 [l0, l1, l2, l3, l4, l5] (v :: st) σ) ∧
  (∀ (l0 l1 l2 l4 l5 : Option Value) (x : Int32) (st : List Value) (σ : dS), den mX7_ifComes 99 [l0, l1, l2, some (.int x), l4, l5] st σ = den mX7_ifComes 100 [l0, l1, l2, some (.int x), l4, l5] (.int x :: st) σ) ∧
  (∀ (l0 l1 l2 l3 l4 l5 : Option Value) (a0 : Int32) (b0 : Int32) (b1 : Nat) (σ : dS), den mX7_ifComes 100 [l0, l1, l2, l3, l4, l5] [.int a0, .int b0, .ref b1] σ = (dcall mX7_flag [.int a0] σ).bind fun r => den mX7_ifComes 103 [l0, l1, l2, l3, l4, l5] (r.1.toList ++ [.int b0, .ref b1]) r.2) ∧
  (∀ (l0 l1 l2 l3 l4 l5 : Option Value) (x y : Int32) (st : List Value) (σ : dS), den mX7_ifComes 103 [l0, l1, l2, l3, l4, l5] (.int y :: .int x :: st) σ = den mX7_ifComes 104 [l0, l1, l2, l3, l4, l5] (.int (x + y) :: st) σ) ∧
  (∀ (l0 l1 l2 l3 l4 l5 : Option Value) (x : Int32) (q : Nat) (st : List Value) (σ : dS), den mX7_ifComes 104 [l0, l1, l2, l3, l4, l5] (.int x :: .ref q :: st) σ = (dput σ q 6 24 (.int x)).bind fun τ => den mX7_ifComes 107 [l0, l1, l2, l3, l4, l5] st τ) ∧
  (∀ (l1 l2 l3 l4 l5 : Option Value) (x : Nat) (st : List Value) (σ : dS), den mX7_ifComes 107 [some (.ref x), l1, l2, l3, l4, l5] st σ = den mX7_ifComes 108 [some (.ref x), l1, l2, l3, l4, l5] (.ref x :: st) σ) ∧
  (∀ (l0 l1 l2 l3 l4 l5 : Option Value) (x : Nat) (st : List Value) (σ : dS), den mX7_ifComes 108 [l0, l1, l2, l3, l4, l5] (.ref x :: st) σ = den mX7_ifComes 109 [l0, l1, l2, l3, l4, l5] (.ref x :: .ref x :: st) σ) ∧
  (∀ (l0 l1 l2 l3 l4 l5 : Option Value) (q : Nat) (st : List Value) (σ : dS), den mX7_ifComes 109 [l0, l1, l2, l3, l4, l5] (.ref q :: st) σ = (dget σ q 6 25).bind fun v => den mX7_ifComes 112 [l0, l1, l2, l3, l4, l5] (v :: st) σ) ∧
  (∀ (l0 l1 l2 l3 l5 : Option Value) (x : Int32) (st : List Value) (σ : dS), den mX7_ifComes 112 [l0, l1, l2, l3, some (.int x), l5] st σ = den mX7_ifComes 114 [l0, l1, l2, l3, some (.int x), l5] (.int x :: st) σ) ∧
  (∀ (l0 l1 l2 l3 l4 l5 : Option Value) (x : Int32) (st : List Value) (σ : dS), den mX7_ifComes 114 [l0, l1, l2, l3, l4, l5] (.int x :: st) σ = if x = 0 then den mX7_ifComes 134 [l0, l1, l2, l3, l4, l5] st σ else den mX7_ifComes 117 [l0, l1, l2, l3, l4, l5] st σ) ∧
  (∀ (l1 l2 l3 l4 l5 : Option Value) (x : Nat) (st : List Value) (σ : dS), den mX7_ifComes 117 [some (.ref x), l1, l2, l3, l4, l5] st σ = den mX7_ifComes 118 [some (.ref x), l1, l2, l3, l4, l5] (.ref x :: st) σ) ∧
  (∀ (l0 l1 l2 l3 l4 l5 : Option Value) (q : Nat) (st : List Value) (σ : dS), den mX7_ifComes 118 [l0, l1, l2, l3, l4, l5] (.ref q :: st) σ = (dget σ q 6 17).bind fun v => den mX7_ifComes 121 [l0, l1, l2, l3, l4, l5] (v :: st) σ) ∧
  (∀ (l0 l1 l3 l4 l5 : Option Value) (x : Int32) (st : List Value) (σ : dS), den mX7_ifComes 121 [l0, l1, some (.int x), l3, l4, l5] st σ = den mX7_ifComes 122 [l0, l1, some (.int x), l3, l4, l5] (.int x :: st) σ) ∧
  (∀ (l0 l1 l2 l3 l4 l5 : Option Value) (q : Nat) (i : Int32) (st : List Value) (σ : dS), den mX7_ifComes 122 [l0, l1, l2, l3, l4, l5] (.int i :: .ref q :: st) σ = (dbld σ q i).bind fun v => den mX7_ifComes 123 [l0, l1, l2, l3, l4, l5] (.int v :: st) σ) ∧
  (∀ (l0 l1 l2 l3 l4 l5 : Option Value) (x : Int32) (st : List Value) (σ : dS), den mX7_ifComes 123 [l0, l1, l2, l3, l4, l5] (.int x :: st) σ = if x = 0 then den mX7_ifComes 130 [l0, l1, l2, l3, l4, l5] st σ else den mX7_ifComes 126 [l0, l1, l2, l3, l4, l5] st σ) ∧
  (∀ (l0 l1 l2 l3 l4 l5 : Option Value) (st : List Value) (σ : dS), den mX7_ifComes 126 [l0, l1, l2, l3, l4, l5] st σ = den mX7_ifComes 127 [l0, l1, l2, l3, l4, l5] (.int (nI 1) :: st) σ) ∧
  (∀ (l0 l1 l2 l3 l4 l5 : Option Value) (st : List Value) (σ : dS), den mX7_ifComes 127 [l0, l1, l2, l3, l4, l5] st σ = den mX7_ifComes 135 [l0, l1, l2, l3, l4, l5] st σ) ∧
  (∀ (l0 l1 l2 l3 l4 l5 : Option Value) (st : List Value) (σ : dS), den mX7_ifComes 130 [l0, l1, l2, l3, l4, l5] st σ = den mX7_ifComes 131 [l0, l1, l2, l3, l4, l5] (.int (nI 4) :: st) σ) ∧
  (∀ (l0 l1 l2 l3 l4 l5 : Option Value) (st : List Value) (σ : dS), den mX7_ifComes 131 [l0, l1, l2, l3, l4, l5] st σ = den mX7_ifComes 135 [l0, l1, l2, l3, l4, l5] st σ) ∧
  (∀ (l0 l1 l2 l3 l4 l5 : Option Value) (st : List Value) (σ : dS), den mX7_ifComes 134 [l0, l1, l2, l3, l4, l5] st σ = den mX7_ifComes 135 [l0, l1, l2, l3, l4, l5] (.int (nI 0) :: st) σ) ∧
  (∀ (l0 l1 l2 l3 l4 l5 : Option Value) (x y : Int32) (st : List Value) (σ : dS), den mX7_ifComes 135 [l0, l1, l2, l3, l4, l5] (.int y :: .int x :: st) σ = den mX7_ifComes 136 [l0, l1, l2, l3, l4, l5] (.int (x + y) :: st) σ) ∧
  (∀ (l0 l1 l2 l3 l4 l5 : Option Value) (x : Int32) (q : Nat) (st : List Value) (σ : dS), den mX7_ifComes 136 [l0, l1, l2, l3, l4, l5] (.int x :: .ref q :: st) σ = (dput σ q 6 25 (.int x)).bind fun τ => den mX7_ifComes 139 [l0, l1, l2, l3, l4, l5] st τ) :=
  ⟨fun l0 l1 l2 l3 l4 l5 st σ => dn_iconst eX7_ifComes dX7_ifComes_67 kc_iconst_0,
  fun l0 l1 l2 l3 l4 l5 q i x st σ => dn_bastore eX7_ifComes dX7_ifComes_68,
  fun l1 l2 l3 l4 l5 x st σ => dn_aload_n eX7_ifComes dX7_ifComes_69 rfl,
  fun l0 l1 l2 l3 l4 l5 q st σ => dn_getfield (f := (6, 23, 794)) eX7_ifComes dX7_ifComes_70 (by decide +kernel),
  fun l0 l1 l3 l4 l5 x st σ => dn_iload_n eX7_ifComes dX7_ifComes_73 rfl,
  fun l0 l1 l2 l3 l5 x st σ => dn_iload eX7_ifComes dX7_ifComes_74 rfl,
  fun l0 l1 l2 l3 l4 l5 x st σ => dn_if_eq eX7_ifComes dX7_ifComes_76 (by decide),
  fun l1 l2 l3 l4 l5 x st σ => dn_aload_n eX7_ifComes dX7_ifComes_79 rfl,
  fun l0 l1 l2 l3 l4 l5 q st σ => dn_getfield (f := (6, 17, 788)) eX7_ifComes dX7_ifComes_80 (by decide +kernel),
  fun l0 l1 l3 l4 l5 x st σ => dn_iload_n eX7_ifComes dX7_ifComes_83 rfl,
  fun l0 l1 l2 l3 l4 l5 q i st σ => dn_baload eX7_ifComes dX7_ifComes_84,
  fun l0 l1 l2 l3 l4 l5 x st σ => dn_if_eq eX7_ifComes dX7_ifComes_85 (by decide),
  fun l0 l1 l2 l3 l4 l5 st σ => dn_iconst eX7_ifComes dX7_ifComes_88 kc_iconst_1,
  fun l0 l1 l2 l3 l4 l5 st σ => dn_goto eX7_ifComes dX7_ifComes_89 (by decide),
  fun l0 l1 l2 l3 l4 l5 st σ => dn_iconst eX7_ifComes dX7_ifComes_92 kc_iconst_0,
  fun l0 l1 l2 l3 l4 l5 q i x st σ => dn_bastore eX7_ifComes dX7_ifComes_93,
  fun l1 l2 l3 l4 l5 x st σ => dn_aload_n eX7_ifComes dX7_ifComes_94 rfl,
  fun l0 l1 l2 l3 l4 l5 x st σ => dn_dup eX7_ifComes dX7_ifComes_95 rfl,
  fun l0 l1 l2 l3 l4 l5 q st σ => dn_getfield (f := (6, 24, 795)) eX7_ifComes dX7_ifComes_96 (by decide +kernel),
  fun l0 l1 l2 l4 l5 x st σ => dn_iload_n eX7_ifComes dX7_ifComes_99 rfl,
  fun l0 l1 l2 l3 l4 l5 a0 b0 b1 σ => dn_callS (e := (1, 103, 951)) (as := [.int a0]) (rest := [.int b0, .ref b1]) eX7_ifComes dX7_ifComes_100 (by decide +kernel) (Or.inl rfl) (by decide +kernel) rfl (dcat_le rfl) (dlen_le rfl) rfl,
  fun l0 l1 l2 l3 l4 l5 x y st σ => dn_iadd eX7_ifComes dX7_ifComes_103,
  fun l0 l1 l2 l3 l4 l5 x q st σ => dn_putfield (f := (6, 24, 795)) (ty := .int) eX7_ifComes dX7_ifComes_104 (by decide +kernel) (by decide +kernel) rfl,
  fun l1 l2 l3 l4 l5 x st σ => dn_aload_n eX7_ifComes dX7_ifComes_107 rfl,
  fun l0 l1 l2 l3 l4 l5 x st σ => dn_dup eX7_ifComes dX7_ifComes_108 rfl,
  fun l0 l1 l2 l3 l4 l5 q st σ => dn_getfield (f := (6, 25, 796)) eX7_ifComes dX7_ifComes_109 (by decide +kernel),
  fun l0 l1 l2 l3 l5 x st σ => dn_iload eX7_ifComes dX7_ifComes_112 rfl,
  fun l0 l1 l2 l3 l4 l5 x st σ => dn_if_eq eX7_ifComes dX7_ifComes_114 (by decide),
  fun l1 l2 l3 l4 l5 x st σ => dn_aload_n eX7_ifComes dX7_ifComes_117 rfl,
  fun l0 l1 l2 l3 l4 l5 q st σ => dn_getfield (f := (6, 17, 788)) eX7_ifComes dX7_ifComes_118 (by decide +kernel),
  fun l0 l1 l3 l4 l5 x st σ => dn_iload_n eX7_ifComes dX7_ifComes_121 rfl,
  fun l0 l1 l2 l3 l4 l5 q i st σ => dn_baload eX7_ifComes dX7_ifComes_122,
  fun l0 l1 l2 l3 l4 l5 x st σ => dn_if_eq eX7_ifComes dX7_ifComes_123 (by decide),
  fun l0 l1 l2 l3 l4 l5 st σ => dn_iconst eX7_ifComes dX7_ifComes_126 kc_iconst_1,
  fun l0 l1 l2 l3 l4 l5 st σ => dn_goto eX7_ifComes dX7_ifComes_127 (by decide),
  fun l0 l1 l2 l3 l4 l5 st σ => dn_iconst eX7_ifComes dX7_ifComes_130 kc_iconst_4,
  fun l0 l1 l2 l3 l4 l5 st σ => dn_goto eX7_ifComes dX7_ifComes_131 (by decide),
  fun l0 l1 l2 l3 l4 l5 st σ => dn_iconst eX7_ifComes dX7_ifComes_134 kc_iconst_0,
  fun l0 l1 l2 l3 l4 l5 x y st σ => dn_iadd eX7_ifComes dX7_ifComes_135,
  fun l0 l1 l2 l3 l4 l5 x q st σ => dn_putfield (f := (6, 25, 796)) (ty := .int) eX7_ifComes dX7_ifComes_136 (by decide +kernel) (by decide +kernel) rfl⟩
theorem SX7_ifComes_2 : (∀ (l0 l1 l2 l3 l4 l5 : Option Value) (σ : dS), den mX7_ifComes 139 [l0, l1, l2, l3, l4, l5] [] σ = some (none, σ)) := fun l0 l1 l2 l3 l4 l5 σ => dn_return eX7_ifComes dX7_ifComes_139 rfl
theorem CX7_runs1 (a0 : Nat) (σ : dS) : dcall mX7_runs1 [.ref a0] σ = den mX7_runs1 0 [some (.ref a0), none, none, none, none, none] [] σ := dcall_den (by decide) rfl
theorem rX7_runs1_1 (l0 l1 l2 l3 l4 l5 : Option Value) (q : Nat) (σ : dS) : den mX7_runs1 1 [l0, l1, l2, l3, l4, l5] [.ref q] σ = if disO σ q 6 = true then ((dcall mX7_findMeans [.ref q] σ).bind fun r => den mX7_runs1 4 [l0, l1, l2, l3, l4, l5] (r.1.toList ++ []) r.2) else none := by
  by_cases h : disO σ q 6 = true
  · rw [if_pos h]; exact dn_callV (e := (0, 136, 974)) (as := []) (rest := []) eX7_runs1 dX7_runs1_1 (by decide +kernel) rfl (by decide +kernel) rfl (dcat_le rfl) (dlen_le rfl) rfl h
  · rw [if_neg h]; exact den_noV (e := (0, 136, 974)) (as := []) (rest := []) eX7_runs1 dX7_runs1_1 (by decide +kernel) rfl rfl rfl h
theorem hX7_runs1_31 (l0 l1 l3 l4 l5 : Option Value) (x : Int32) (st : List Value) (σ : dS) : den mX7_runs1 31 [l0, l1, some (.int x), l3, l4, l5] st σ = den mX7_runs1 32 [l0, l1, some (.int x), l3, l4, l5] (.int x :: st) σ := dn_iload_n eX7_runs1 dX7_runs1_31 rfl
theorem rX7_runs1_54 (l0 l1 l2 l3 l4 l5 : Option Value) (a0 : Int32) (a1 : Int32) (q : Nat) (σ : dS) : den mX7_runs1 54 [l0, l1, l2, l3, l4, l5] [.int a1, .int a0, .ref q] σ = if disO σ q 6 = true then ((dcall mX7_of [.ref q, .int a0, .int a1] σ).bind fun r => den mX7_runs1 57 [l0, l1, l2, l3, l4, l5] (r.1.toList ++ []) r.2) else none := by
  by_cases h : disO σ q 6 = true
  · rw [if_pos h]; exact dn_callV (e := (0, 120, 947)) (as := [.int a0, .int a1]) (rest := []) eX7_runs1 dX7_runs1_54 (by decide +kernel) rfl (by decide +kernel) rfl (dcat_le rfl) (dlen_le rfl) rfl h
  · rw [if_neg h]; exact den_noV (e := (0, 120, 947)) (as := [.int a0, .int a1]) (rest := []) eX7_runs1 dX7_runs1_54 (by decide +kernel) rfl rfl rfl h
theorem rX7_runs1_98 (l0 l1 l2 l3 l4 l5 : Option Value) (a0 : Int32) (a1 : Int32) (q : Nat) (σ : dS) : den mX7_runs1 98 [l0, l1, l2, l3, l4, l5] [.int a1, .int a0, .ref q] σ = if disO σ q 6 = true then ((dcall mX7_of [.ref q, .int a0, .int a1] σ).bind fun r => den mX7_runs1 101 [l0, l1, l2, l3, l4, l5] (r.1.toList ++ []) r.2) else none := by
  by_cases h : disO σ q 6 = true
  · rw [if_pos h]; exact dn_callV (e := (0, 120, 947)) (as := [.int a0, .int a1]) (rest := []) eX7_runs1 dX7_runs1_98 (by decide +kernel) rfl (by decide +kernel) rfl (dcat_le rfl) (dlen_le rfl) rfl h
  · rw [if_neg h]; exact den_noV (e := (0, 120, 947)) (as := [.int a0, .int a1]) (rest := []) eX7_runs1 dX7_runs1_98 (by decide +kernel) rfl rfl rfl h
theorem rX7_runs1_112 (l0 l1 l2 l3 l4 l5 : Option Value) (a0 : Int32) (a1 : Int32) (a2 : Int32) (a3 : Int32) (q : Nat) (σ : dS) : den mX7_runs1 112 [l0, l1, l2, l3, l4, l5] [.int a3, .int a2, .int a1, .int a0, .ref q] σ = if disO σ q 6 = true then ((dcall mX7_ifComes [.ref q, .int a0, .int a1, .int a2, .int a3] σ).bind fun r => den mX7_runs1 115 [l0, l1, l2, l3, l4, l5] (r.1.toList ++ []) r.2) else none := by
  by_cases h : disO σ q 6 = true
  · rw [if_pos h]; exact dn_callV (e := (0, 149, 1052)) (as := [.int a0, .int a1, .int a2, .int a3]) (rest := []) eX7_runs1 dX7_runs1_112 (by decide +kernel) rfl (by decide +kernel) rfl (dcat_le rfl) (dlen_le rfl) rfl h
  · rw [if_neg h]; exact den_noV (e := (0, 149, 1052)) (as := [.int a0, .int a1, .int a2, .int a3]) (rest := []) eX7_runs1 dX7_runs1_112 (by decide +kernel) rfl rfl rfl h
theorem rX7_runs1_134 (l0 l1 l2 l3 l4 l5 : Option Value) (a0 : Int32) (a1 : Int32) (b0 : Int32) (b1 : Nat) (q : Nat) (σ : dS) : den mX7_runs1 134 [l0, l1, l2, l3, l4, l5] [.int a1, .int a0, .ref q, .int b0, .ref b1] σ = if disO σ q 6 = true then ((dcall mX7_of [.ref q, .int a0, .int a1] σ).bind fun r => den mX7_runs1 137 [l0, l1, l2, l3, l4, l5] (r.1.toList ++ [.int b0, .ref b1]) r.2) else none := by
  by_cases h : disO σ q 6 = true
  · rw [if_pos h]; exact dn_callV (e := (0, 120, 947)) (as := [.int a0, .int a1]) (rest := [.int b0, .ref b1]) eX7_runs1 dX7_runs1_134 (by decide +kernel) rfl (by decide +kernel) rfl (dcat_le rfl) (dlen_le rfl) rfl h
  · rw [if_neg h]; exact den_noV (e := (0, 120, 947)) (as := [.int a0, .int a1]) (rest := [.int b0, .ref b1]) eX7_runs1 dX7_runs1_134 (by decide +kernel) rfl rfl rfl h
theorem rX7_runs1_155 (l0 l1 l2 l3 l4 l5 : Option Value) (a0 : Int32) (q : Nat) (σ : dS) : den mX7_runs1 155 [l0, l1, l2, l3, l4, l5] [.int a0, .ref q] σ = if disO σ q 6 = true then ((dcall mX7_isDone [.ref q, .int a0] σ).bind fun r => den mX7_runs1 158 [l0, l1, l2, l3, l4, l5] (r.1.toList ++ []) r.2) else none := by
  by_cases h : disO σ q 6 = true
  · rw [if_pos h]; exact dn_callV (e := (0, 148, 1056)) (as := [.int a0]) (rest := []) eX7_runs1 dX7_runs1_155 (by decide +kernel) rfl (by decide +kernel) rfl (dcat_le rfl) (dlen_le rfl) rfl h
  · rw [if_neg h]; exact den_noV (e := (0, 148, 1056)) (as := [.int a0]) (rest := []) eX7_runs1 dX7_runs1_155 (by decide +kernel) rfl rfl rfl h
set_option maxRecDepth 20000 in
theorem SX7_runs1_0 : (∀ (l1 l2 l3 l4 l5 : Option Value) (x : Nat) (st : List Value) (σ : dS), den mX7_runs1 0 [some (.ref x), l1, l2, l3, l4, l5] st σ = den mX7_runs1 1 [some (.ref x), l1, l2, l3, l4, l5] (.ref x :: st) σ) ∧
  (∀ (l0 l1 l2 l3 l4 l5 : Option Value) (q : Nat) (σ : dS), den mX7_runs1 1 [l0, l1, l2, l3, l4, l5] [.ref q] σ = if disO σ q 6 = true then ((dcall mX7_findMeans [.ref q] σ).bind fun r => den mX7_runs1 4 [l0, l1, l2, l3, l4, l5] (r.1.toList ++ []) r.2) else none) ∧
  (∀ (l1 l2 l3 l4 l5 : Option Value) (x : Nat) (st : List Value) (σ : dS), den mX7_runs1 4 [some (.ref x), l1, l2, l3, l4, l5] st σ = den mX7_runs1 5 [some (.ref x), l1, l2, l3, l4, l5] (.ref x :: st) σ) ∧
  (∀ (l0 l1 l2 l3 l4 l5 : Option Value) (st : List Value) (σ : dS), den mX7_runs1 5 [l0, l1, l2, l3, l4, l5] st σ = den mX7_runs1 6 [l0, l1, l2, l3, l4, l5] (.int (nI 0) :: st) σ) ∧
  (∀ (l0 l1 l2 l3 l4 l5 : Option Value) (x : Int32) (q : Nat) (st : List Value) (σ : dS), den mX7_runs1 6 [l0, l1, l2, l3, l4, l5] (.int x :: .ref q :: st) σ = (dput σ q 6 24 (.int x)).bind fun τ => den mX7_runs1 9 [l0, l1, l2, l3, l4, l5] st τ) ∧
  (∀ (l1 l2 l3 l4 l5 : Option Value) (x : Nat) (st : List Value) (σ : dS), den mX7_runs1 9 [some (.ref x), l1, l2, l3, l4, l5] st σ = den mX7_runs1 10 [some (.ref x), l1, l2, l3, l4, l5] (.ref x :: st) σ) ∧
  (∀ (l0 l1 l2 l3 l4 l5 : Option Value) (st : List Value) (σ : dS), den mX7_runs1 10 [l0, l1, l2, l3, l4, l5] st σ = den mX7_runs1 11 [l0, l1, l2, l3, l4, l5] (.int (nI 0) :: st) σ) ∧
  (∀ (l0 l1 l2 l3 l4 l5 : Option Value) (x : Int32) (q : Nat) (st : List Value) (σ : dS), den mX7_runs1 11 [l0, l1, l2, l3, l4, l5] (.int x :: .ref q :: st) σ = (dput σ q 6 25 (.int x)).bind fun τ => den mX7_runs1 14 [l0, l1, l2, l3, l4, l5] st τ) ∧
  (∀ (l1 l2 l3 l4 l5 : Option Value) (x : Nat) (st : List Value) (σ : dS), den mX7_runs1 14 [some (.ref x), l1, l2, l3, l4, l5] st σ = den mX7_runs1 15 [some (.ref x), l1, l2, l3, l4, l5] (.ref x :: st) σ) ∧
  (∀ (l0 l1 l2 l3 l4 l5 : Option Value) (st : List Value) (σ : dS), den mX7_runs1 15 [l0, l1, l2, l3, l4, l5] st σ = den mX7_runs1 17 [l0, l1, l2, l3, l4, l5] (.int ((-4)) :: st) σ) ∧
  (∀ (l0 l1 l2 l3 l4 l5 : Option Value) (x : Int32) (q : Nat) (st : List Value) (σ : dS), den mX7_runs1 17 [l0, l1, l2, l3, l4, l5] (.int x :: .ref q :: st) σ = (dput σ q 6 26 (.int x)).bind fun τ => den mX7_runs1 20 [l0, l1, l2, l3, l4, l5] st τ) ∧
  (∀ (l1 l2 l3 l4 l5 : Option Value) (x : Nat) (st : List Value) (σ : dS), den mX7_runs1 20 [some (.ref x), l1, l2, l3, l4, l5] st σ = den mX7_runs1 21 [some (.ref x), l1, l2, l3, l4, l5] (.ref x :: st) σ) ∧
  (∀ (l0 l1 l2 l3 l4 l5 : Option Value) (q : Nat) (st : List Value) (σ : dS), den mX7_runs1 21 [l0, l1, l2, l3, l4, l5] (.ref q :: st) σ = (dget σ q 6 22).bind fun v => den mX7_runs1 24 [l0, l1, l2, l3, l4, l5] (v :: st) σ) ∧
  (∀ (l0 l1 l2 l3 l4 l5 : Option Value) (st : List Value) (σ : dS), den mX7_runs1 24 [l0, l1, l2, l3, l4, l5] st σ = den mX7_runs1 25 [l0, l1, l2, l3, l4, l5] (.int (nI 0) :: st) σ) ∧
  (∀ (l0 l1 l2 l3 l4 l5 : Option Value) (st : List Value) (σ : dS), den mX7_runs1 25 [l0, l1, l2, l3, l4, l5] st σ = den mX7_runs1 26 [l0, l1, l2, l3, l4, l5] (.int (nI 1) :: st) σ) ∧
  (∀ (l0 l1 l2 l3 l4 l5 : Option Value) (q : Nat) (i x : Int32) (st : List Value) (σ : dS), den mX7_runs1 26 [l0, l1, l2, l3, l4, l5] (.int x :: .int i :: .ref q :: st) σ = (dbst σ q i x).bind fun τ => den mX7_runs1 27 [l0, l1, l2, l3, l4, l5] st τ) ∧
  (∀ (l0 l1 l2 l3 l4 l5 : Option Value) (st : List Value) (σ : dS), den mX7_runs1 27 [l0, l1, l2, l3, l4, l5] st σ = den mX7_runs1 28 [l0, l1, l2, l3, l4, l5] (.int (nI 0) :: st) σ) ∧
  (∀ (l1 l2 l3 l4 l5 : Option Value) (x : Int32) (y : Nat) (st : List Value) (σ : dS), den mX7_runs1 28 [some (.ref y), l1, l2, l3, l4, l5] (.int x :: st) σ = den mX7_runs1 29 [some (.ref y), some (.int x), l2, l3, l4, l5] st σ) ∧
  (∀ (l0 l1 l2 l3 l4 l5 : Option Value) (st : List Value) (σ : dS), den mX7_runs1 29 [l0, l1, l2, l3, l4, l5] st σ = den mX7_runs1 30 [l0, l1, l2, l3, l4, l5] (.int (nI 0) :: st) σ) ∧
  (∀ (l0 l2 l3 l4 l5 : Option Value) (x : Int32) (y : Int32) (st : List Value) (σ : dS), den mX7_runs1 30 [l0, some (.int y), l2, l3, l4, l5] (.int x :: st) σ = den mX7_runs1 31 [l0, some (.int y), some (.int x), l3, l4, l5] st σ) ∧
  (∀ (l1 l2 l3 l4 l5 : Option Value) (x : Nat) (st : List Value) (σ : dS), den mX7_runs1 32 [some (.ref x), l1, l2, l3, l4, l5] st σ = den mX7_runs1 33 [some (.ref x), l1, l2, l3, l4, l5] (.ref x :: st) σ) ∧
  (∀ (l0 l1 l2 l3 l4 l5 : Option Value) (q : Nat) (st : List Value) (σ : dS), den mX7_runs1 33 [l0, l1, l2, l3, l4, l5] (.ref q :: st) σ = (dget σ q 6 0).bind fun v => den mX7_runs1 36 [l0, l1, l2, l3, l4, l5] (v :: st) σ) ∧
  (∀ (l0 l1 l2 l3 l4 l5 : Option Value) (st : List Value) (σ : dS), den mX7_runs1 36 [l0, l1, l2, l3, l4, l5] st σ = den mX7_runs1 38 [l0, l1, l2, l3, l4, l5] (.int (nI 120) :: st) σ) ∧
  (∀ (l0 l1 l2 l3 l4 l5 : Option Value) (q : Nat) (i : Int32) (st : List Value) (σ : dS), den mX7_runs1 38 [l0, l1, l2, l3, l4, l5] (.int i :: .ref q :: st) σ = if q ≤ dN then (dald σ q 0 i).bind (fun v => den mX7_runs1 39 [l0, l1, l2, l3, l4, l5] (.int v :: st) σ) else none) ∧
  (∀ (l0 l1 l2 l3 l4 l5 : Option Value) (x y : Int32) (st : List Value) (σ : dS), den mX7_runs1 39 [l0, l1, l2, l3, l4, l5] (.int y :: .int x :: st) σ = if x < y then den mX7_runs1 42 [l0, l1, l2, l3, l4, l5] st σ else den mX7_runs1 164 [l0, l1, l2, l3, l4, l5] st σ) ∧
  (∀ (l1 l2 l3 l4 l5 : Option Value) (x : Nat) (st : List Value) (σ : dS), den mX7_runs1 42 [some (.ref x), l1, l2, l3, l4, l5] st σ = den mX7_runs1 43 [some (.ref x), l1, l2, l3, l4, l5] (.ref x :: st) σ) ∧
  (∀ (l0 l1 l2 l3 l4 l5 : Option Value) (q : Nat) (st : List Value) (σ : dS), den mX7_runs1 43 [l0, l1, l2, l3, l4, l5] (.ref q :: st) σ = (dget σ q 6 26).bind fun v => den mX7_runs1 46 [l0, l1, l2, l3, l4, l5] (v :: st) σ) ∧
  (∀ (l0 l1 l2 l3 l4 l5 : Option Value) (st : List Value) (σ : dS), den mX7_runs1 46 [l0, l1, l2, l3, l4, l5] st σ = den mX7_runs1 48 [l0, l1, l2, l3, l4, l5] (.int ((-4)) :: st) σ) ∧
  (∀ (l0 l1 l2 l3 l4 l5 : Option Value) (x y : Int32) (st : List Value) (σ : dS), den mX7_runs1 48 [l0, l1, l2, l3, l4, l5] (.int y :: .int x :: st) σ = if x = y then den mX7_runs1 51 [l0, l1, l2, l3, l4, l5] st σ else den mX7_runs1 164 [l0, l1, l2, l3, l4, l5] st σ) ∧
  (∀ (l1 l2 l3 l4 l5 : Option Value) (x : Nat) (st : List Value) (σ : dS), den mX7_runs1 51 [some (.ref x), l1, l2, l3, l4, l5] st σ = den mX7_runs1 52 [some (.ref x), l1, l2, l3, l4, l5] (.ref x :: st) σ) ∧
  (∀ (l0 l1 l3 l4 l5 : Option Value) (x : Int32) (st : List Value) (σ : dS), den mX7_runs1 52 [l0, l1, some (.int x), l3, l4, l5] st σ = den mX7_runs1 53 [l0, l1, some (.int x), l3, l4, l5] (.int x :: st) σ) ∧
  (∀ (l0 l1 l2 l3 l4 l5 : Option Value) (st : List Value) (σ : dS), den mX7_runs1 53 [l0, l1, l2, l3, l4, l5] st σ = den mX7_runs1 54 [l0, l1, l2, l3, l4, l5] (.int (nI 4) :: st) σ) ∧
  (∀ (l0 l1 l2 l3 l4 l5 : Option Value) (a0 : Int32) (a1 : Int32) (q : Nat) (σ : dS), den mX7_runs1 54 [l0, l1, l2, l3, l4, l5] [.int a1, .int a0, .ref q] σ = if disO σ q 6 = true then ((dcall mX7_of [.ref q, .int a0, .int a1] σ).bind fun r => den mX7_runs1 57 [l0, l1, l2, l3, l4, l5] (r.1.toList ++ []) r.2) else none) ∧
  (∀ (l0 l1 l3 l4 l5 : Option Value) (x : Int32) (y : Int32) (st : List Value) (σ : dS), den mX7_runs1 57 [l0, l1, some (.int y), l3, l4, l5] (.int x :: st) σ = den mX7_runs1 58 [l0, l1, some (.int y), some (.int x), l4, l5] st σ) ∧
  (∀ (l1 l2 l3 l4 l5 : Option Value) (x : Nat) (st : List Value) (σ : dS), den mX7_runs1 58 [some (.ref x), l1, l2, l3, l4, l5] st σ = den mX7_runs1 59 [some (.ref x), l1, l2, l3, l4, l5] (.ref x :: st) σ) ∧
  (∀ (l0 l1 l2 l3 l4 l5 : Option Value) (q : Nat) (st : List Value) (σ : dS), den mX7_runs1 59 [l0, l1, l2, l3, l4, l5] (.ref q :: st) σ = (dget σ q 6 22).bind fun v => den mX7_runs1 62 [l0, l1, l2, l3, l4, l5] (v :: st) σ) ∧
  (∀ (l0 l1 l2 l4 l5 : Option Value) (x : Int32) (st : List Value) (σ : dS), den mX7_runs1 62 [l0, l1, l2, some (.int x), l4, l5] st σ = den mX7_runs1 63 [l0, l1, l2, some (.int x), l4, l5] (.int x :: st) σ) ∧
  (∀ (l0 l1 l2 l3 l4 l5 : Option Value) (q : Nat) (i : Int32) (st : List Value) (σ : dS), den mX7_runs1 63 [l0, l1, l2, l3, l4, l5] (.int i :: .ref q :: st) σ = (dbld σ q i).bind fun v => den mX7_runs1 64 [l0, l1, l2, l3, l4, l5] (.int v :: st) σ) ∧
  (∀ (l0 l1 l2 l4 l5 : Option Value) (x : Int32) (y : Int32) (st : List Value) (σ : dS), den mX7_runs1 64 [l0, l1, l2, some (.int y), l4, l5] (.int x :: st) σ = den mX7_runs1 66 [l0, l1, l2, some (.int y), some (.int x), l5] st σ) ∧
  (∀ (l0 l1 l2 l3 l5 : Option Value) (x : Int32) (st : List Value) (σ : dS), den mX7_runs1 66 [l0, l1, l2, l3, some (.int x), l5] st σ = den mX7_runs1 68 [l0, l1, l2, l3, some (.int x), l5] (.int x :: st) σ) :=
  ⟨fun l1 l2 l3 l4 l5 x st σ => dn_aload_n eX7_runs1 dX7_runs1_0 rfl,
  fun l0 l1 l2 l3 l4 l5 q σ => rX7_runs1_1 l0 l1 l2 l3 l4 l5 q σ,
  fun l1 l2 l3 l4 l5 x st σ => dn_aload_n eX7_runs1 dX7_runs1_4 rfl,
  fun l0 l1 l2 l3 l4 l5 st σ => dn_iconst eX7_runs1 dX7_runs1_5 kc_iconst_0,
  fun l0 l1 l2 l3 l4 l5 x q st σ => dn_putfield (f := (6, 24, 795)) (ty := .int) eX7_runs1 dX7_runs1_6 (by decide +kernel) (by decide +kernel) rfl,
  fun l1 l2 l3 l4 l5 x st σ => dn_aload_n eX7_runs1 dX7_runs1_9 rfl,
  fun l0 l1 l2 l3 l4 l5 st σ => dn_iconst eX7_runs1 dX7_runs1_10 kc_iconst_0,
  fun l0 l1 l2 l3 l4 l5 x q st σ => dn_putfield (f := (6, 25, 796)) (ty := .int) eX7_runs1 dX7_runs1_11 (by decide +kernel) (by decide +kernel) rfl,
  fun l1 l2 l3 l4 l5 x st σ => dn_aload_n eX7_runs1 dX7_runs1_14 rfl,
  fun l0 l1 l2 l3 l4 l5 st σ => dn_bipush eX7_runs1 dX7_runs1_15 kc_bipush_m4,
  fun l0 l1 l2 l3 l4 l5 x q st σ => dn_putfield (f := (6, 26, 797)) (ty := .int) eX7_runs1 dX7_runs1_17 (by decide +kernel) (by decide +kernel) rfl,
  fun l1 l2 l3 l4 l5 x st σ => dn_aload_n eX7_runs1 dX7_runs1_20 rfl,
  fun l0 l1 l2 l3 l4 l5 q st σ => dn_getfield (f := (6, 22, 793)) eX7_runs1 dX7_runs1_21 (by decide +kernel),
  fun l0 l1 l2 l3 l4 l5 st σ => dn_iconst eX7_runs1 dX7_runs1_24 kc_iconst_0,
  fun l0 l1 l2 l3 l4 l5 st σ => dn_iconst eX7_runs1 dX7_runs1_25 kc_iconst_1,
  fun l0 l1 l2 l3 l4 l5 q i x st σ => dn_bastore eX7_runs1 dX7_runs1_26,
  fun l0 l1 l2 l3 l4 l5 st σ => dn_iconst eX7_runs1 dX7_runs1_27 kc_iconst_0,
  fun l1 l2 l3 l4 l5 x y st σ => dn_istore_n eX7_runs1 dX7_runs1_28 rfl,
  fun l0 l1 l2 l3 l4 l5 st σ => dn_iconst eX7_runs1 dX7_runs1_29 kc_iconst_0,
  fun l0 l2 l3 l4 l5 x y st σ => dn_istore_n eX7_runs1 dX7_runs1_30 rfl,
  fun l1 l2 l3 l4 l5 x st σ => dn_aload_n eX7_runs1 dX7_runs1_32 rfl,
  fun l0 l1 l2 l3 l4 l5 q st σ => dn_getfield (f := (6, 0, 771)) eX7_runs1 dX7_runs1_33 (by decide +kernel),
  fun l0 l1 l2 l3 l4 l5 st σ => dn_bipush eX7_runs1 dX7_runs1_36 kc_bipush_120,
  fun l0 l1 l2 l3 l4 l5 q i st σ => dn_iaload eX7_runs1 dX7_runs1_38,
  fun l0 l1 l2 l3 l4 l5 x y st σ => dn_icmp_ge eX7_runs1 dX7_runs1_39 (by decide),
  fun l1 l2 l3 l4 l5 x st σ => dn_aload_n eX7_runs1 dX7_runs1_42 rfl,
  fun l0 l1 l2 l3 l4 l5 q st σ => dn_getfield (f := (6, 26, 797)) eX7_runs1 dX7_runs1_43 (by decide +kernel),
  fun l0 l1 l2 l3 l4 l5 st σ => dn_bipush eX7_runs1 dX7_runs1_46 kc_bipush_m4,
  fun l0 l1 l2 l3 l4 l5 x y st σ => dn_icmp_ne eX7_runs1 dX7_runs1_48 (by decide),
  fun l1 l2 l3 l4 l5 x st σ => dn_aload_n eX7_runs1 dX7_runs1_51 rfl,
  fun l0 l1 l3 l4 l5 x st σ => dn_iload_n eX7_runs1 dX7_runs1_52 rfl,
  fun l0 l1 l2 l3 l4 l5 st σ => dn_iconst eX7_runs1 dX7_runs1_53 kc_iconst_4,
  fun l0 l1 l2 l3 l4 l5 a0 a1 q σ => rX7_runs1_54 l0 l1 l2 l3 l4 l5 a0 a1 q σ,
  fun l0 l1 l3 l4 l5 x y st σ => dn_istore_n eX7_runs1 dX7_runs1_57 rfl,
  fun l1 l2 l3 l4 l5 x st σ => dn_aload_n eX7_runs1 dX7_runs1_58 rfl,
  fun l0 l1 l2 l3 l4 l5 q st σ => dn_getfield (f := (6, 22, 793)) eX7_runs1 dX7_runs1_59 (by decide +kernel),
  fun l0 l1 l2 l4 l5 x st σ => dn_iload_n eX7_runs1 dX7_runs1_62 rfl,
  fun l0 l1 l2 l3 l4 l5 q i st σ => dn_baload eX7_runs1 dX7_runs1_63,
  fun l0 l1 l2 l4 l5 x y st σ => dn_istore eX7_runs1 dX7_runs1_64 rfl,
  fun l0 l1 l2 l3 l5 x st σ => dn_iload eX7_runs1 dX7_runs1_66 rfl⟩
set_option maxRecDepth 20000 in
theorem SX7_runs1_1 : (∀ (l0 l1 l2 l3 l4 l5 : Option Value) (x : Int32) (st : List Value) (σ : dS), den mX7_runs1 68 [l0, l1, l2, l3, l4, l5] (.int x :: st) σ = if x = 0 then den mX7_runs1 71 [l0, l1, l2, l3, l4, l5] st σ else den mX7_runs1 88 [l0, l1, l2, l3, l4, l5] st σ) ∧
  (∀ (l0 l1 l2 l4 l5 : Option Value) (x : Int32) (st : List Value) (σ : dS), den mX7_runs1 71 [l0, l1, l2, some (.int x), l4, l5] st σ = den mX7_runs1 72 [l0, l1, l2, some (.int x), l4, l5] (.int x :: st) σ) ∧
  (∀ (l0 l1 l2 l3 l4 l5 : Option Value) (x : Int32) (st : List Value) (σ : dS), den mX7_runs1 72 [l0, l1, l2, l3, l4, l5] (.int x :: st) σ = if 0 < x then den mX7_runs1 75 [l0, l1, l2, l3, l4, l5] st σ else den mX7_runs1 92 [l0, l1, l2, l3, l4, l5] st σ) ∧
  (∀ (l1 l2 l3 l4 l5 : Option Value) (x : Nat) (st : List Value) (σ : dS), den mX7_runs1 75 [some (.ref x), l1, l2, l3, l4, l5] st σ = den mX7_runs1 76 [some (.ref x), l1, l2, l3, l4, l5] (.ref x :: st) σ) ∧
  (∀ (l0 l1 l2 l3 l4 l5 : Option Value) (q : Nat) (st : List Value) (σ : dS), den mX7_runs1 76 [l0, l1, l2, l3, l4, l5] (.ref q :: st) σ = (dget σ q 6 23).bind fun v => den mX7_runs1 79 [l0, l1, l2, l3, l4, l5] (v :: st) σ) ∧
  (∀ (l0 l1 l2 l4 l5 : Option Value) (x : Int32) (st : List Value) (σ : dS), den mX7_runs1 79 [l0, l1, l2, some (.int x), l4, l5] st σ = den mX7_runs1 80 [l0, l1, l2, some (.int x), l4, l5] (.int x :: st) σ) ∧
  (∀ (l0 l1 l2 l3 l4 l5 : Option Value) (st : List Value) (σ : dS), den mX7_runs1 80 [l0, l1, l2, l3, l4, l5] st σ = den mX7_runs1 81 [l0, l1, l2, l3, l4, l5] (.int (nI 1) :: st) σ) ∧
  (∀ (l0 l1 l2 l3 l4 l5 : Option Value) (x y : Int32) (st : List Value) (σ : dS), den mX7_runs1 81 [l0, l1, l2, l3, l4, l5] (.int y :: .int x :: st) σ = den mX7_runs1 82 [l0, l1, l2, l3, l4, l5] (.int (x - y) :: st) σ) ∧
  (∀ (l0 l1 l2 l3 l4 l5 : Option Value) (st : List Value) (σ : dS), den mX7_runs1 82 [l0, l1, l2, l3, l4, l5] st σ = den mX7_runs1 83 [l0, l1, l2, l3, l4, l5] (.int (nI 2) :: st) σ) ∧
  (∀ (l0 l1 l2 l3 l4 l5 : Option Value) (x y : Int32) (st : List Value) (σ : dS), den mX7_runs1 83 [l0, l1, l2, l3, l4, l5] (.int y :: .int x :: st) σ = if y = 0 then none else den mX7_runs1 84 [l0, l1, l2, l3, l4, l5] (.int (x / y) :: st) σ) ∧
  (∀ (l0 l1 l2 l3 l4 l5 : Option Value) (q : Nat) (i : Int32) (st : List Value) (σ : dS), den mX7_runs1 84 [l0, l1, l2, l3, l4, l5] (.int i :: .ref q :: st) σ = (dbld σ q i).bind fun v => den mX7_runs1 85 [l0, l1, l2, l3, l4, l5] (.int v :: st) σ) ∧
  (∀ (l0 l1 l2 l3 l4 l5 : Option Value) (x : Int32) (st : List Value) (σ : dS), den mX7_runs1 85 [l0, l1, l2, l3, l4, l5] (.int x :: st) σ = if x = 0 then den mX7_runs1 92 [l0, l1, l2, l3, l4, l5] st σ else den mX7_runs1 88 [l0, l1, l2, l3, l4, l5] st σ) ∧
  (∀ (l0 l1 l2 l3 l4 l5 : Option Value) (st : List Value) (σ : dS), den mX7_runs1 88 [l0, l1, l2, l3, l4, l5] st σ = den mX7_runs1 89 [l0, l1, l2, l3, l4, l5] (.int (nI 1) :: st) σ) ∧
  (∀ (l0 l1 l2 l3 l4 l5 : Option Value) (st : List Value) (σ : dS), den mX7_runs1 89 [l0, l1, l2, l3, l4, l5] st σ = den mX7_runs1 93 [l0, l1, l2, l3, l4, l5] st σ) ∧
  (∀ (l0 l1 l2 l3 l4 l5 : Option Value) (st : List Value) (σ : dS), den mX7_runs1 92 [l0, l1, l2, l3, l4, l5] st σ = den mX7_runs1 93 [l0, l1, l2, l3, l4, l5] (.int (nI 0) :: st) σ) ∧
  (∀ (l0 l1 l2 l3 l5 : Option Value) (x : Int32) (y : Int32) (st : List Value) (σ : dS), den mX7_runs1 93 [l0, l1, l2, l3, some (.int y), l5] (.int x :: st) σ = den mX7_runs1 95 [l0, l1, l2, l3, some (.int y), some (.int x)] st σ) ∧
  (∀ (l1 l2 l3 l4 l5 : Option Value) (x : Nat) (st : List Value) (σ : dS), den mX7_runs1 95 [some (.ref x), l1, l2, l3, l4, l5] st σ = den mX7_runs1 96 [some (.ref x), l1, l2, l3, l4, l5] (.ref x :: st) σ) ∧
  (∀ (l0 l1 l3 l4 l5 : Option Value) (x : Int32) (st : List Value) (σ : dS), den mX7_runs1 96 [l0, l1, some (.int x), l3, l4, l5] st σ = den mX7_runs1 97 [l0, l1, some (.int x), l3, l4, l5] (.int x :: st) σ) ∧
  (∀ (l0 l1 l2 l3 l4 l5 : Option Value) (st : List Value) (σ : dS), den mX7_runs1 97 [l0, l1, l2, l3, l4, l5] st σ = den mX7_runs1 98 [l0, l1, l2, l3, l4, l5] (.int (nI 0) :: st) σ) ∧
  (∀ (l0 l1 l2 l3 l4 l5 : Option Value) (a0 : Int32) (a1 : Int32) (q : Nat) (σ : dS), den mX7_runs1 98 [l0, l1, l2, l3, l4, l5] [.int a1, .int a0, .ref q] σ = if disO σ q 6 = true then ((dcall mX7_of [.ref q, .int a0, .int a1] σ).bind fun r => den mX7_runs1 101 [l0, l1, l2, l3, l4, l5] (r.1.toList ++ []) r.2) else none) ∧
  (∀ (l0 l1 l2 l3 l4 l5 : Option Value) (st : List Value) (σ : dS), den mX7_runs1 101 [l0, l1, l2, l3, l4, l5] st σ = den mX7_runs1 102 [l0, l1, l2, l3, l4, l5] (.int (nI 5) :: st) σ) ∧
  (∀ (l0 l1 l2 l3 l4 l5 : Option Value) (x y : Int32) (st : List Value) (σ : dS), den mX7_runs1 102 [l0, l1, l2, l3, l4, l5] (.int y :: .int x :: st) σ = if x = y then den mX7_runs1 105 [l0, l1, l2, l3, l4, l5] st σ else den mX7_runs1 121 [l0, l1, l2, l3, l4, l5] st σ) ∧
  (∀ (l1 l2 l3 l4 l5 : Option Value) (x : Nat) (st : List Value) (σ : dS), den mX7_runs1 105 [some (.ref x), l1, l2, l3, l4, l5] st σ = den mX7_runs1 106 [some (.ref x), l1, l2, l3, l4, l5] (.ref x :: st) σ) ∧
  (∀ (l0 l1 l3 l4 l5 : Option Value) (x : Int32) (st : List Value) (σ : dS), den mX7_runs1 106 [l0, l1, some (.int x), l3, l4, l5] st σ = den mX7_runs1 107 [l0, l1, some (.int x), l3, l4, l5] (.int x :: st) σ) ∧
  (∀ (l0 l2 l3 l4 l5 : Option Value) (x : Int32) (st : List Value) (σ : dS), den mX7_runs1 107 [l0, some (.int x), l2, l3, l4, l5] st σ = den mX7_runs1 108 [l0, some (.int x), l2, l3, l4, l5] (.int x :: st) σ) ∧
  (∀ (l0 l1 l2 l3 l5 : Option Value) (x : Int32) (st : List Value) (σ : dS), den mX7_runs1 108 [l0, l1, l2, l3, some (.int x), l5] st σ = den mX7_runs1 110 [l0, l1, l2, l3, some (.int x), l5] (.int x :: st) σ) ∧
  (∀ (l0 l1 l2 l3 l4 : Option Value) (x : Int32) (st : List Value) (σ : dS), den mX7_runs1 110 [l0, l1, l2, l3, l4, some (.int x)] st σ = den mX7_runs1 112 [l0, l1, l2, l3, l4, some (.int x)] (.int x :: st) σ) ∧
  (∀ (l0 l1 l2 l3 l4 l5 : Option Value) (a0 : Int32) (a1 : Int32) (a2 : Int32) (a3 : Int32) (q : Nat) (σ : dS), den mX7_runs1 112 [l0, l1, l2, l3, l4, l5] [.int a3, .int a2, .int a1, .int a0, .ref q] σ = if disO σ q 6 = true then ((dcall mX7_ifComes [.ref q, .int a0, .int a1, .int a2, .int a3] σ).bind fun r => den mX7_runs1 115 [l0, l1, l2, l3, l4, l5] (r.1.toList ++ []) r.2) else none) ∧
  (∀ (l2 l3 l4 l5 : Option Value) (x : Int32) (y : Nat) (st : List Value) (σ : dS), den mX7_runs1 115 [some (.ref y), some (.int x), l2, l3, l4, l5] st σ = den mX7_runs1 118 [some (.ref y), some (.int (x + nI 1)), l2, l3, l4, l5] st σ) ∧
  (∀ (l0 l1 l2 l3 l4 l5 : Option Value) (st : List Value) (σ : dS), den mX7_runs1 118 [l0, l1, l2, l3, l4, l5] st σ = den mX7_runs1 158 [l0, l1, l2, l3, l4, l5] st σ) ∧
  (∀ (l1 l2 l3 l4 l5 : Option Value) (x : Nat) (st : List Value) (σ : dS), den mX7_runs1 121 [some (.ref x), l1, l2, l3, l4, l5] st σ = den mX7_runs1 122 [some (.ref x), l1, l2, l3, l4, l5] (.ref x :: st) σ) ∧
  (∀ (l0 l1 l2 l3 l4 l5 : Option Value) (x : Nat) (st : List Value) (σ : dS), den mX7_runs1 122 [l0, l1, l2, l3, l4, l5] (.ref x :: st) σ = den mX7_runs1 123 [l0, l1, l2, l3, l4, l5] (.ref x :: .ref x :: st) σ) ∧
  (∀ (l0 l1 l2 l3 l4 l5 : Option Value) (q : Nat) (st : List Value) (σ : dS), den mX7_runs1 123 [l0, l1, l2, l3, l4, l5] (.ref q :: st) σ = (dget σ q 6 25).bind fun v => den mX7_runs1 126 [l0, l1, l2, l3, l4, l5] (v :: st) σ) ∧
  (∀ (l0 l1 l2 l3 l4 : Option Value) (x : Int32) (st : List Value) (σ : dS), den mX7_runs1 126 [l0, l1, l2, l3, l4, some (.int x)] st σ = den mX7_runs1 128 [l0, l1, l2, l3, l4, some (.int x)] (.int x :: st) σ) ∧
  (∀ (l0 l1 l2 l3 l4 l5 : Option Value) (x : Int32) (st : List Value) (σ : dS), den mX7_runs1 128 [l0, l1, l2, l3, l4, l5] (.int x :: st) σ = if x = 0 then den mX7_runs1 143 [l0, l1, l2, l3, l4, l5] st σ else den mX7_runs1 131 [l0, l1, l2, l3, l4, l5] st σ) ∧
  (∀ (l1 l2 l3 l4 l5 : Option Value) (x : Nat) (st : List Value) (σ : dS), den mX7_runs1 131 [some (.ref x), l1, l2, l3, l4, l5] st σ = den mX7_runs1 132 [some (.ref x), l1, l2, l3, l4, l5] (.ref x :: st) σ) ∧
  (∀ (l0 l1 l3 l4 l5 : Option Value) (x : Int32) (st : List Value) (σ : dS), den mX7_runs1 132 [l0, l1, some (.int x), l3, l4, l5] st σ = den mX7_runs1 133 [l0, l1, some (.int x), l3, l4, l5] (.int x :: st) σ) ∧
  (∀ (l0 l1 l2 l3 l4 l5 : Option Value) (st : List Value) (σ : dS), den mX7_runs1 133 [l0, l1, l2, l3, l4, l5] st σ = den mX7_runs1 134 [l0, l1, l2, l3, l4, l5] (.int (nI 0) :: st) σ) ∧
  (∀ (l0 l1 l2 l3 l4 l5 : Option Value) (a0 : Int32) (a1 : Int32) (b0 : Int32) (b1 : Nat) (q : Nat) (σ : dS), den mX7_runs1 134 [l0, l1, l2, l3, l4, l5] [.int a1, .int a0, .ref q, .int b0, .ref b1] σ = if disO σ q 6 = true then ((dcall mX7_of [.ref q, .int a0, .int a1] σ).bind fun r => den mX7_runs1 137 [l0, l1, l2, l3, l4, l5] (r.1.toList ++ [.int b0, .ref b1]) r.2) else none) ∧
  (∀ (l0 l1 l2 l3 l4 l5 : Option Value) (a0 : Int32) (b0 : Int32) (b1 : Nat) (σ : dS), den mX7_runs1 137 [l0, l1, l2, l3, l4, l5] [.int a0, .int b0, .ref b1] σ = (dcall mX7_costOf [.int a0] σ).bind fun r => den mX7_runs1 140 [l0, l1, l2, l3, l4, l5] (r.1.toList ++ [.int b0, .ref b1]) r.2) :=
  ⟨fun l0 l1 l2 l3 l4 l5 x st σ => dn_if_ne eX7_runs1 dX7_runs1_68 (by decide),
  fun l0 l1 l2 l4 l5 x st σ => dn_iload_n eX7_runs1 dX7_runs1_71 rfl,
  fun l0 l1 l2 l3 l4 l5 x st σ => dn_if_le eX7_runs1 dX7_runs1_72 (by decide),
  fun l1 l2 l3 l4 l5 x st σ => dn_aload_n eX7_runs1 dX7_runs1_75 rfl,
  fun l0 l1 l2 l3 l4 l5 q st σ => dn_getfield (f := (6, 23, 794)) eX7_runs1 dX7_runs1_76 (by decide +kernel),
  fun l0 l1 l2 l4 l5 x st σ => dn_iload_n eX7_runs1 dX7_runs1_79 rfl,
  fun l0 l1 l2 l3 l4 l5 st σ => dn_iconst eX7_runs1 dX7_runs1_80 kc_iconst_1,
  fun l0 l1 l2 l3 l4 l5 x y st σ => dn_isub eX7_runs1 dX7_runs1_81,
  fun l0 l1 l2 l3 l4 l5 st σ => dn_iconst eX7_runs1 dX7_runs1_82 kc_iconst_2,
  fun l0 l1 l2 l3 l4 l5 x y st σ => dn_idiv eX7_runs1 dX7_runs1_83,
  fun l0 l1 l2 l3 l4 l5 q i st σ => dn_baload eX7_runs1 dX7_runs1_84,
  fun l0 l1 l2 l3 l4 l5 x st σ => dn_if_eq eX7_runs1 dX7_runs1_85 (by decide),
  fun l0 l1 l2 l3 l4 l5 st σ => dn_iconst eX7_runs1 dX7_runs1_88 kc_iconst_1,
  fun l0 l1 l2 l3 l4 l5 st σ => dn_goto eX7_runs1 dX7_runs1_89 (by decide),
  fun l0 l1 l2 l3 l4 l5 st σ => dn_iconst eX7_runs1 dX7_runs1_92 kc_iconst_0,
  fun l0 l1 l2 l3 l5 x y st σ => dn_istore eX7_runs1 dX7_runs1_93 rfl,
  fun l1 l2 l3 l4 l5 x st σ => dn_aload_n eX7_runs1 dX7_runs1_95 rfl,
  fun l0 l1 l3 l4 l5 x st σ => dn_iload_n eX7_runs1 dX7_runs1_96 rfl,
  fun l0 l1 l2 l3 l4 l5 st σ => dn_iconst eX7_runs1 dX7_runs1_97 kc_iconst_0,
  fun l0 l1 l2 l3 l4 l5 a0 a1 q σ => rX7_runs1_98 l0 l1 l2 l3 l4 l5 a0 a1 q σ,
  fun l0 l1 l2 l3 l4 l5 st σ => dn_iconst eX7_runs1 dX7_runs1_101 kc_iconst_5,
  fun l0 l1 l2 l3 l4 l5 x y st σ => dn_icmp_ne eX7_runs1 dX7_runs1_102 (by decide),
  fun l1 l2 l3 l4 l5 x st σ => dn_aload_n eX7_runs1 dX7_runs1_105 rfl,
  fun l0 l1 l3 l4 l5 x st σ => dn_iload_n eX7_runs1 dX7_runs1_106 rfl,
  fun l0 l2 l3 l4 l5 x st σ => dn_iload_n eX7_runs1 dX7_runs1_107 rfl,
  fun l0 l1 l2 l3 l5 x st σ => dn_iload eX7_runs1 dX7_runs1_108 rfl,
  fun l0 l1 l2 l3 l4 x st σ => dn_iload eX7_runs1 dX7_runs1_110 rfl,
  fun l0 l1 l2 l3 l4 l5 a0 a1 a2 a3 q σ => rX7_runs1_112 l0 l1 l2 l3 l4 l5 a0 a1 a2 a3 q σ,
  fun l2 l3 l4 l5 x y st σ => dn_iinc (v := nI 1) eX7_runs1 dX7_runs1_115 rfl kc_iconst_1 rfl,
  fun l0 l1 l2 l3 l4 l5 st σ => dn_goto eX7_runs1 dX7_runs1_118 (by decide),
  fun l1 l2 l3 l4 l5 x st σ => dn_aload_n eX7_runs1 dX7_runs1_121 rfl,
  fun l0 l1 l2 l3 l4 l5 x st σ => dn_dup eX7_runs1 dX7_runs1_122 rfl,
  fun l0 l1 l2 l3 l4 l5 q st σ => dn_getfield (f := (6, 25, 796)) eX7_runs1 dX7_runs1_123 (by decide +kernel),
  fun l0 l1 l2 l3 l4 x st σ => dn_iload eX7_runs1 dX7_runs1_126 rfl,
  fun l0 l1 l2 l3 l4 l5 x st σ => dn_if_eq eX7_runs1 dX7_runs1_128 (by decide),
  fun l1 l2 l3 l4 l5 x st σ => dn_aload_n eX7_runs1 dX7_runs1_131 rfl,
  fun l0 l1 l3 l4 l5 x st σ => dn_iload_n eX7_runs1 dX7_runs1_132 rfl,
  fun l0 l1 l2 l3 l4 l5 st σ => dn_iconst eX7_runs1 dX7_runs1_133 kc_iconst_0,
  fun l0 l1 l2 l3 l4 l5 a0 a1 b0 b1 q σ => rX7_runs1_134 l0 l1 l2 l3 l4 l5 a0 a1 b0 b1 q σ,
  fun l0 l1 l2 l3 l4 l5 a0 b0 b1 σ => dn_callS (e := (1, 131, 988)) (as := [.int a0]) (rest := [.int b0, .ref b1]) eX7_runs1 dX7_runs1_137 (by decide +kernel) (Or.inl rfl) (by decide +kernel) rfl (dcat_le rfl) (dlen_le rfl) rfl⟩
set_option maxRecDepth 20000 in
theorem SX7_runs1_2 : (∀ (l0 l1 l2 l3 l4 l5 : Option Value) (st : List Value) (σ : dS), den mX7_runs1 140 [l0, l1, l2, l3, l4, l5] st σ = den mX7_runs1 144 [l0, l1, l2, l3, l4, l5] st σ) ∧
  (∀ (l0 l1 l2 l3 l4 l5 : Option Value) (st : List Value) (σ : dS), den mX7_runs1 143 [l0, l1, l2, l3, l4, l5] st σ = den mX7_runs1 144 [l0, l1, l2, l3, l4, l5] (.int (nI 0) :: st) σ) ∧
  (∀ (l0 l1 l2 l3 l4 l5 : Option Value) (x y : Int32) (st : List Value) (σ : dS), den mX7_runs1 144 [l0, l1, l2, l3, l4, l5] (.int y :: .int x :: st) σ = den mX7_runs1 145 [l0, l1, l2, l3, l4, l5] (.int (x + y) :: st) σ) ∧
  (∀ (l0 l1 l2 l3 l4 l5 : Option Value) (x : Int32) (q : Nat) (st : List Value) (σ : dS), den mX7_runs1 145 [l0, l1, l2, l3, l4, l5] (.int x :: .ref q :: st) σ = (dput σ q 6 25 (.int x)).bind fun τ => den mX7_runs1 148 [l0, l1, l2, l3, l4, l5] st τ) ∧
  (∀ (l0 l1 l2 l3 l5 : Option Value) (x : Int32) (st : List Value) (σ : dS), den mX7_runs1 148 [l0, l1, l2, l3, some (.int x), l5] st σ = den mX7_runs1 150 [l0, l1, l2, l3, some (.int x), l5] (.int x :: st) σ) ∧
  (∀ (l0 l1 l2 l3 l4 l5 : Option Value) (x : Int32) (st : List Value) (σ : dS), den mX7_runs1 150 [l0, l1, l2, l3, l4, l5] (.int x :: st) σ = if x = 0 then den mX7_runs1 158 [l0, l1, l2, l3, l4, l5] st σ else den mX7_runs1 153 [l0, l1, l2, l3, l4, l5] st σ) ∧
  (∀ (l1 l2 l3 l4 l5 : Option Value) (x : Nat) (st : List Value) (σ : dS), den mX7_runs1 153 [some (.ref x), l1, l2, l3, l4, l5] st σ = den mX7_runs1 154 [some (.ref x), l1, l2, l3, l4, l5] (.ref x :: st) σ) ∧
  (∀ (l0 l1 l3 l4 l5 : Option Value) (x : Int32) (st : List Value) (σ : dS), den mX7_runs1 154 [l0, l1, some (.int x), l3, l4, l5] st σ = den mX7_runs1 155 [l0, l1, some (.int x), l3, l4, l5] (.int x :: st) σ) ∧
  (∀ (l0 l1 l2 l3 l4 l5 : Option Value) (a0 : Int32) (q : Nat) (σ : dS), den mX7_runs1 155 [l0, l1, l2, l3, l4, l5] [.int a0, .ref q] σ = if disO σ q 6 = true then ((dcall mX7_isDone [.ref q, .int a0] σ).bind fun r => den mX7_runs1 158 [l0, l1, l2, l3, l4, l5] (r.1.toList ++ []) r.2) else none) ∧
  (∀ (l0 l3 l4 l5 : Option Value) (x : Int32) (y : Int32) (st : List Value) (σ : dS), den mX7_runs1 158 [l0, some (.int y), some (.int x), l3, l4, l5] st σ = den mX7_runs1 161 [l0, some (.int y), some (.int (x + nI 1)), l3, l4, l5] st σ) ∧
  (∀ (l0 l1 l2 l3 l4 l5 : Option Value) (st : List Value) (σ : dS), den mX7_runs1 161 [l0, l1, l2, l3, l4, l5] st σ = den mX7_runs1 31 [l0, l1, l2, l3, l4, l5] st σ) ∧
  (∀ (l0 l1 l2 l3 l4 l5 : Option Value) (σ : dS), den mX7_runs1 164 [l0, l1, l2, l3, l4, l5] [] σ = some (none, σ)) :=
  ⟨fun l0 l1 l2 l3 l4 l5 st σ => dn_goto eX7_runs1 dX7_runs1_140 (by decide),
  fun l0 l1 l2 l3 l4 l5 st σ => dn_iconst eX7_runs1 dX7_runs1_143 kc_iconst_0,
  fun l0 l1 l2 l3 l4 l5 x y st σ => dn_iadd eX7_runs1 dX7_runs1_144,
  fun l0 l1 l2 l3 l4 l5 x q st σ => dn_putfield (f := (6, 25, 796)) (ty := .int) eX7_runs1 dX7_runs1_145 (by decide +kernel) (by decide +kernel) rfl,
  fun l0 l1 l2 l3 l5 x st σ => dn_iload eX7_runs1 dX7_runs1_148 rfl,
  fun l0 l1 l2 l3 l4 l5 x st σ => dn_if_eq eX7_runs1 dX7_runs1_150 (by decide),
  fun l1 l2 l3 l4 l5 x st σ => dn_aload_n eX7_runs1 dX7_runs1_153 rfl,
  fun l0 l1 l3 l4 l5 x st σ => dn_iload_n eX7_runs1 dX7_runs1_154 rfl,
  fun l0 l1 l2 l3 l4 l5 a0 q σ => rX7_runs1_155 l0 l1 l2 l3 l4 l5 a0 q σ,
  fun l0 l3 l4 l5 x y st σ => dn_iinc (v := nI 1) eX7_runs1 dX7_runs1_158 rfl kc_iconst_1 rfl,
  fun l0 l1 l2 l3 l4 l5 st σ => dn_goto eX7_runs1 dX7_runs1_161 (by decide),
  fun l0 l1 l2 l3 l4 l5 σ => dn_return eX7_runs1 dX7_runs1_164 rfl⟩
theorem CX7_run (a0 : Nat) (a1 : Int32) (a2 : Int32) (a3 : Int32) (a4 : Int32) (σ : dS) : dcall mX7_run [.ref a0, .int a1, .int a2, .int a3, .int a4] σ = den mX7_run 0 [some (.ref a0), some (.int a1), some (.int a2), some (.int a3), some (.int a4), none] [] σ := dcall_den (by decide) rfl
theorem rX7_run_6 (l0 l1 l2 l3 l4 l5 : Option Value) (a0 : Int32) (a1 : Int32) (a2 : Int32) (a3 : Int32) (q : Nat) (σ : dS) : den mX7_run 6 [l0, l1, l2, l3, l4, l5] [.int a3, .int a2, .int a1, .int a0, .ref q] σ = if disO σ q 6 = true then ((dcall mX7_starts [.ref q, .int a0, .int a1, .int a2, .int a3] σ).bind fun r => den mX7_run 9 [l0, l1, l2, l3, l4, l5] (r.1.toList ++ []) r.2) else none := by
  by_cases h : disO σ q 6 = true
  · rw [if_pos h]; exact dn_callV (e := (0, 146, 1044)) (as := [.int a0, .int a1, .int a2, .int a3]) (rest := []) eX7_run dX7_run_6 (by decide +kernel) rfl (by decide +kernel) rfl (dcat_le rfl) (dlen_le rfl) rfl h
  · rw [if_neg h]; exact den_noV (e := (0, 146, 1044)) (as := [.int a0, .int a1, .int a2, .int a3]) (rest := []) eX7_run dX7_run_6 (by decide +kernel) rfl rfl rfl h
theorem rX7_run_10 (l0 l1 l2 l3 l4 l5 : Option Value) (q : Nat) (σ : dS) : den mX7_run 10 [l0, l1, l2, l3, l4, l5] [.ref q] σ = if disO σ q 6 = true then ((dcall mX7_runs1 [.ref q] σ).bind fun r => den mX7_run 13 [l0, l1, l2, l3, l4, l5] (r.1.toList ++ []) r.2) else none := by
  by_cases h : disO σ q 6 = true
  · rw [if_pos h]; exact dn_callV (e := (0, 150, 1048)) (as := []) (rest := []) eX7_run dX7_run_10 (by decide +kernel) rfl (by decide +kernel) rfl (dcat_le rfl) (dlen_le rfl) rfl h
  · rw [if_neg h]; exact den_noV (e := (0, 150, 1048)) (as := []) (rest := []) eX7_run dX7_run_10 (by decide +kernel) rfl rfl rfl h
theorem hX7_run_29 (l0 l1 l2 l3 l4 : Option Value) (x : Int32) (st : List Value) (σ : dS) : den mX7_run 29 [l0, l1, l2, l3, l4, some (.int x)] st σ = den mX7_run 31 [l0, l1, l2, l3, l4, some (.int x)] (.int x :: st) σ := dn_iload eX7_run dX7_run_29 rfl
set_option maxRecDepth 20000 in
theorem SX7_run_0 : (∀ (l1 l2 l3 l4 l5 : Option Value) (x : Nat) (st : List Value) (σ : dS), den mX7_run 0 [some (.ref x), l1, l2, l3, l4, l5] st σ = den mX7_run 1 [some (.ref x), l1, l2, l3, l4, l5] (.ref x :: st) σ) ∧
  (∀ (l0 l2 l3 l4 l5 : Option Value) (x : Int32) (st : List Value) (σ : dS), den mX7_run 1 [l0, some (.int x), l2, l3, l4, l5] st σ = den mX7_run 2 [l0, some (.int x), l2, l3, l4, l5] (.int x :: st) σ) ∧
  (∀ (l0 l1 l3 l4 l5 : Option Value) (x : Int32) (st : List Value) (σ : dS), den mX7_run 2 [l0, l1, some (.int x), l3, l4, l5] st σ = den mX7_run 3 [l0, l1, some (.int x), l3, l4, l5] (.int x :: st) σ) ∧
  (∀ (l0 l1 l2 l4 l5 : Option Value) (x : Int32) (st : List Value) (σ : dS), den mX7_run 3 [l0, l1, l2, some (.int x), l4, l5] st σ = den mX7_run 4 [l0, l1, l2, some (.int x), l4, l5] (.int x :: st) σ) ∧
  (∀ (l0 l1 l2 l3 l5 : Option Value) (x : Int32) (st : List Value) (σ : dS), den mX7_run 4 [l0, l1, l2, l3, some (.int x), l5] st σ = den mX7_run 6 [l0, l1, l2, l3, some (.int x), l5] (.int x :: st) σ) ∧
  (∀ (l0 l1 l2 l3 l4 l5 : Option Value) (a0 : Int32) (a1 : Int32) (a2 : Int32) (a3 : Int32) (q : Nat) (σ : dS), den mX7_run 6 [l0, l1, l2, l3, l4, l5] [.int a3, .int a2, .int a1, .int a0, .ref q] σ = if disO σ q 6 = true then ((dcall mX7_starts [.ref q, .int a0, .int a1, .int a2, .int a3] σ).bind fun r => den mX7_run 9 [l0, l1, l2, l3, l4, l5] (r.1.toList ++ []) r.2) else none) ∧
  (∀ (l1 l2 l3 l4 l5 : Option Value) (x : Nat) (st : List Value) (σ : dS), den mX7_run 9 [some (.ref x), l1, l2, l3, l4, l5] st σ = den mX7_run 10 [some (.ref x), l1, l2, l3, l4, l5] (.ref x :: st) σ) ∧
  (∀ (l0 l1 l2 l3 l4 l5 : Option Value) (q : Nat) (σ : dS), den mX7_run 10 [l0, l1, l2, l3, l4, l5] [.ref q] σ = if disO σ q 6 = true then ((dcall mX7_runs1 [.ref q] σ).bind fun r => den mX7_run 13 [l0, l1, l2, l3, l4, l5] (r.1.toList ++ []) r.2) else none) ∧
  (∀ (l1 l2 l3 l4 l5 : Option Value) (x : Nat) (st : List Value) (σ : dS), den mX7_run 13 [some (.ref x), l1, l2, l3, l4, l5] st σ = den mX7_run 14 [some (.ref x), l1, l2, l3, l4, l5] (.ref x :: st) σ) ∧
  (∀ (l0 l1 l2 l3 l4 l5 : Option Value) (st : List Value) (σ : dS), den mX7_run 14 [l0, l1, l2, l3, l4, l5] st σ = den mX7_run 15 [l0, l1, l2, l3, l4, l5] (.int (nI 1) :: st) σ) ∧
  (∀ (l0 l1 l2 l3 l4 l5 : Option Value) (x : Int32) (q : Nat) (st : List Value) (σ : dS), den mX7_run 15 [l0, l1, l2, l3, l4, l5] (.int x :: .ref q :: st) σ = if x = 0 ∨ x = 1 then ((dput σ q 6 20 (.int x)).bind fun τ => den mX7_run 18 [l0, l1, l2, l3, l4, l5] st τ) else none) ∧
  (∀ (l1 l2 l3 l4 l5 : Option Value) (x : Nat) (st : List Value) (σ : dS), den mX7_run 18 [some (.ref x), l1, l2, l3, l4, l5] st σ = den mX7_run 19 [some (.ref x), l1, l2, l3, l4, l5] (.ref x :: st) σ) ∧
  (∀ (l1 l2 l3 l4 l5 : Option Value) (x : Nat) (st : List Value) (σ : dS), den mX7_run 19 [some (.ref x), l1, l2, l3, l4, l5] st σ = den mX7_run 20 [some (.ref x), l1, l2, l3, l4, l5] (.ref x :: st) σ) ∧
  (∀ (l0 l1 l2 l3 l4 l5 : Option Value) (q : Nat) (st : List Value) (σ : dS), den mX7_run 20 [l0, l1, l2, l3, l4, l5] (.ref q :: st) σ = (dget σ q 6 25).bind fun v => den mX7_run 23 [l0, l1, l2, l3, l4, l5] (v :: st) σ) ∧
  (∀ (l0 l1 l2 l3 l4 l5 : Option Value) (x : Int32) (q : Nat) (st : List Value) (σ : dS), den mX7_run 23 [l0, l1, l2, l3, l4, l5] (.int x :: .ref q :: st) σ = (dput σ q 6 21 (.int x)).bind fun τ => den mX7_run 26 [l0, l1, l2, l3, l4, l5] st τ) ∧
  (∀ (l0 l1 l2 l3 l4 l5 : Option Value) (st : List Value) (σ : dS), den mX7_run 26 [l0, l1, l2, l3, l4, l5] st σ = den mX7_run 27 [l0, l1, l2, l3, l4, l5] (.int (nI 0) :: st) σ) ∧
  (∀ (l0 l1 l2 l3 l5 : Option Value) (x : Int32) (y : Int32) (st : List Value) (σ : dS), den mX7_run 27 [l0, l1, l2, l3, some (.int y), l5] (.int x :: st) σ = den mX7_run 29 [l0, l1, l2, l3, some (.int y), some (.int x)] st σ) ∧
  (∀ (l0 l1 l2 l3 l4 l5 : Option Value) (st : List Value) (σ : dS), den mX7_run 31 [l0, l1, l2, l3, l4, l5] st σ = den mX7_run 33 [l0, l1, l2, l3, l4, l5] (.int (nI 8) :: st) σ) ∧
  (∀ (l0 l1 l2 l3 l4 l5 : Option Value) (x y : Int32) (st : List Value) (σ : dS), den mX7_run 33 [l0, l1, l2, l3, l4, l5] (.int y :: .int x :: st) σ = if x < y then den mX7_run 36 [l0, l1, l2, l3, l4, l5] st σ else den mX7_run 56 [l0, l1, l2, l3, l4, l5] st σ) ∧
  (∀ (l1 l2 l3 l4 l5 : Option Value) (x : Nat) (st : List Value) (σ : dS), den mX7_run 36 [some (.ref x), l1, l2, l3, l4, l5] st σ = den mX7_run 37 [some (.ref x), l1, l2, l3, l4, l5] (.ref x :: st) σ) ∧
  (∀ (l0 l1 l2 l3 l4 l5 : Option Value) (q : Nat) (st : List Value) (σ : dS), den mX7_run 37 [l0, l1, l2, l3, l4, l5] (.ref q :: st) σ = (dget σ q 6 19).bind fun v => den mX7_run 40 [l0, l1, l2, l3, l4, l5] (v :: st) σ) ∧
  (∀ (l0 l1 l2 l3 l4 : Option Value) (x : Int32) (st : List Value) (σ : dS), den mX7_run 40 [l0, l1, l2, l3, l4, some (.int x)] st σ = den mX7_run 42 [l0, l1, l2, l3, l4, some (.int x)] (.int x :: st) σ) ∧
  (∀ (l1 l2 l3 l4 l5 : Option Value) (x : Nat) (st : List Value) (σ : dS), den mX7_run 42 [some (.ref x), l1, l2, l3, l4, l5] st σ = den mX7_run 43 [some (.ref x), l1, l2, l3, l4, l5] (.ref x :: st) σ) ∧
  (∀ (l0 l1 l2 l3 l4 l5 : Option Value) (q : Nat) (st : List Value) (σ : dS), den mX7_run 43 [l0, l1, l2, l3, l4, l5] (.ref q :: st) σ = (dget σ q 6 18).bind fun v => den mX7_run 46 [l0, l1, l2, l3, l4, l5] (v :: st) σ) ∧
  (∀ (l0 l1 l2 l3 l4 : Option Value) (x : Int32) (st : List Value) (σ : dS), den mX7_run 46 [l0, l1, l2, l3, l4, some (.int x)] st σ = den mX7_run 48 [l0, l1, l2, l3, l4, some (.int x)] (.int x :: st) σ) ∧
  (∀ (l0 l1 l2 l3 l4 l5 : Option Value) (q : Nat) (i : Int32) (st : List Value) (σ : dS), den mX7_run 48 [l0, l1, l2, l3, l4, l5] (.int i :: .ref q :: st) σ = if q ≤ dN then (dald σ q 0 i).bind (fun v => den mX7_run 49 [l0, l1, l2, l3, l4, l5] (.int v :: st) σ) else none) ∧
  (∀ (l0 l1 l2 l3 l4 l5 : Option Value) (q : Nat) (i x : Int32) (st : List Value) (σ : dS), den mX7_run 49 [l0, l1, l2, l3, l4, l5] (.int x :: .int i :: .ref q :: st) σ = (dast σ q 0 i x).bind fun τ => den mX7_run 50 [l0, l1, l2, l3, l4, l5] st τ) ∧
  (∀ (l0 l1 l2 l3 : Option Value) (x : Int32) (y : Int32) (st : List Value) (σ : dS), den mX7_run 50 [l0, l1, l2, l3, some (.int y), some (.int x)] st σ = den mX7_run 53 [l0, l1, l2, l3, some (.int y), some (.int (x + nI 1))] st σ) ∧
  (∀ (l0 l1 l2 l3 l4 l5 : Option Value) (st : List Value) (σ : dS), den mX7_run 53 [l0, l1, l2, l3, l4, l5] st σ = den mX7_run 29 [l0, l1, l2, l3, l4, l5] st σ) ∧
  (∀ (l1 l2 l3 l4 l5 : Option Value) (x : Nat) (st : List Value) (σ : dS), den mX7_run 56 [some (.ref x), l1, l2, l3, l4, l5] st σ = den mX7_run 57 [some (.ref x), l1, l2, l3, l4, l5] (.ref x :: st) σ) ∧
  (∀ (l0 l1 l2 l3 l4 l5 : Option Value) (q : Nat) (st : List Value) (σ : dS), den mX7_run 57 [l0, l1, l2, l3, l4, l5] (.ref q :: st) σ = (dget σ q 6 26).bind fun v => den mX7_run 60 [l0, l1, l2, l3, l4, l5] (v :: st) σ) ∧
  (∀ (l0 l1 l2 l3 l4 l5 : Option Value) (st : List Value) (σ : dS), den mX7_run 60 [l0, l1, l2, l3, l4, l5] st σ = den mX7_run 62 [l0, l1, l2, l3, l4, l5] (.int ((-4)) :: st) σ) ∧
  (∀ (l0 l1 l2 l3 l4 l5 : Option Value) (x y : Int32) (st : List Value) (σ : dS), den mX7_run 62 [l0, l1, l2, l3, l4, l5] (.int y :: .int x :: st) σ = if x = y then den mX7_run 65 [l0, l1, l2, l3, l4, l5] st σ else den mX7_run 72 [l0, l1, l2, l3, l4, l5] st σ) ∧
  (∀ (l1 l2 l3 l4 l5 : Option Value) (x : Nat) (st : List Value) (σ : dS), den mX7_run 65 [some (.ref x), l1, l2, l3, l4, l5] st σ = den mX7_run 66 [some (.ref x), l1, l2, l3, l4, l5] (.ref x :: st) σ) ∧
  (∀ (l0 l1 l2 l3 l4 l5 : Option Value) (q : Nat) (st : List Value) (σ : dS), den mX7_run 66 [l0, l1, l2, l3, l4, l5] (.ref q :: st) σ = (dget σ q 6 24).bind fun v => den mX7_run 69 [l0, l1, l2, l3, l4, l5] (v :: st) σ) ∧
  (∀ (l0 l1 l2 l3 l4 l5 : Option Value) (st : List Value) (σ : dS), den mX7_run 69 [l0, l1, l2, l3, l4, l5] st σ = den mX7_run 79 [l0, l1, l2, l3, l4, l5] st σ) ∧
  (∀ (l0 l1 l2 l3 l4 l5 : Option Value) (st : List Value) (σ : dS), den mX7_run 72 [l0, l1, l2, l3, l4, l5] st σ = den mX7_run 74 [l0, l1, l2, l3, l4, l5] (.int ((-10)) :: st) σ) ∧
  (∀ (l1 l2 l3 l4 l5 : Option Value) (x : Nat) (st : List Value) (σ : dS), den mX7_run 74 [some (.ref x), l1, l2, l3, l4, l5] st σ = den mX7_run 75 [some (.ref x), l1, l2, l3, l4, l5] (.ref x :: st) σ) ∧
  (∀ (l0 l1 l2 l3 l4 l5 : Option Value) (q : Nat) (st : List Value) (σ : dS), den mX7_run 75 [l0, l1, l2, l3, l4, l5] (.ref q :: st) σ = (dget σ q 6 26).bind fun v => den mX7_run 78 [l0, l1, l2, l3, l4, l5] (v :: st) σ) ∧
  (∀ (l0 l1 l2 l3 l4 l5 : Option Value) (x y : Int32) (st : List Value) (σ : dS), den mX7_run 78 [l0, l1, l2, l3, l4, l5] (.int y :: .int x :: st) σ = den mX7_run 79 [l0, l1, l2, l3, l4, l5] (.int (x - y) :: st) σ) :=
  ⟨fun l1 l2 l3 l4 l5 x st σ => dn_aload_n eX7_run dX7_run_0 rfl,
  fun l0 l2 l3 l4 l5 x st σ => dn_iload_n eX7_run dX7_run_1 rfl,
  fun l0 l1 l3 l4 l5 x st σ => dn_iload_n eX7_run dX7_run_2 rfl,
  fun l0 l1 l2 l4 l5 x st σ => dn_iload_n eX7_run dX7_run_3 rfl,
  fun l0 l1 l2 l3 l5 x st σ => dn_iload eX7_run dX7_run_4 rfl,
  fun l0 l1 l2 l3 l4 l5 a0 a1 a2 a3 q σ => rX7_run_6 l0 l1 l2 l3 l4 l5 a0 a1 a2 a3 q σ,
  fun l1 l2 l3 l4 l5 x st σ => dn_aload_n eX7_run dX7_run_9 rfl,
  fun l0 l1 l2 l3 l4 l5 q σ => rX7_run_10 l0 l1 l2 l3 l4 l5 q σ,
  fun l1 l2 l3 l4 l5 x st σ => dn_aload_n eX7_run dX7_run_13 rfl,
  fun l0 l1 l2 l3 l4 l5 st σ => dn_iconst eX7_run dX7_run_14 kc_iconst_1,
  fun l0 l1 l2 l3 l4 l5 x q st σ => dn_putfieldZ (f := (6, 20, 791)) eX7_run dX7_run_15 (by decide +kernel) (by decide +kernel),
  fun l1 l2 l3 l4 l5 x st σ => dn_aload_n eX7_run dX7_run_18 rfl,
  fun l1 l2 l3 l4 l5 x st σ => dn_aload_n eX7_run dX7_run_19 rfl,
  fun l0 l1 l2 l3 l4 l5 q st σ => dn_getfield (f := (6, 25, 796)) eX7_run dX7_run_20 (by decide +kernel),
  fun l0 l1 l2 l3 l4 l5 x q st σ => dn_putfield (f := (6, 21, 792)) (ty := .int) eX7_run dX7_run_23 (by decide +kernel) (by decide +kernel) rfl,
  fun l0 l1 l2 l3 l4 l5 st σ => dn_iconst eX7_run dX7_run_26 kc_iconst_0,
  fun l0 l1 l2 l3 l5 x y st σ => dn_istore eX7_run dX7_run_27 rfl,
  fun l0 l1 l2 l3 l4 l5 st σ => dn_bipush eX7_run dX7_run_31 kc_bipush_8,
  fun l0 l1 l2 l3 l4 l5 x y st σ => dn_icmp_ge eX7_run dX7_run_33 (by decide),
  fun l1 l2 l3 l4 l5 x st σ => dn_aload_n eX7_run dX7_run_36 rfl,
  fun l0 l1 l2 l3 l4 l5 q st σ => dn_getfield (f := (6, 19, 790)) eX7_run dX7_run_37 (by decide +kernel),
  fun l0 l1 l2 l3 l4 x st σ => dn_iload eX7_run dX7_run_40 rfl,
  fun l1 l2 l3 l4 l5 x st σ => dn_aload_n eX7_run dX7_run_42 rfl,
  fun l0 l1 l2 l3 l4 l5 q st σ => dn_getfield (f := (6, 18, 789)) eX7_run dX7_run_43 (by decide +kernel),
  fun l0 l1 l2 l3 l4 x st σ => dn_iload eX7_run dX7_run_46 rfl,
  fun l0 l1 l2 l3 l4 l5 q i st σ => dn_iaload eX7_run dX7_run_48,
  fun l0 l1 l2 l3 l4 l5 q i x st σ => dn_iastore eX7_run dX7_run_49,
  fun l0 l1 l2 l3 x y st σ => dn_iinc (v := nI 1) eX7_run dX7_run_50 rfl kc_iconst_1 rfl,
  fun l0 l1 l2 l3 l4 l5 st σ => dn_goto eX7_run dX7_run_53 (by decide),
  fun l1 l2 l3 l4 l5 x st σ => dn_aload_n eX7_run dX7_run_56 rfl,
  fun l0 l1 l2 l3 l4 l5 q st σ => dn_getfield (f := (6, 26, 797)) eX7_run dX7_run_57 (by decide +kernel),
  fun l0 l1 l2 l3 l4 l5 st σ => dn_bipush eX7_run dX7_run_60 kc_bipush_m4,
  fun l0 l1 l2 l3 l4 l5 x y st σ => dn_icmp_ne eX7_run dX7_run_62 (by decide),
  fun l1 l2 l3 l4 l5 x st σ => dn_aload_n eX7_run dX7_run_65 rfl,
  fun l0 l1 l2 l3 l4 l5 q st σ => dn_getfield (f := (6, 24, 795)) eX7_run dX7_run_66 (by decide +kernel),
  fun l0 l1 l2 l3 l4 l5 st σ => dn_goto eX7_run dX7_run_69 (by decide),
  fun l0 l1 l2 l3 l4 l5 st σ => dn_bipush eX7_run dX7_run_72 kc_bipush_m10,
  fun l1 l2 l3 l4 l5 x st σ => dn_aload_n eX7_run dX7_run_74 rfl,
  fun l0 l1 l2 l3 l4 l5 q st σ => dn_getfield (f := (6, 26, 797)) eX7_run dX7_run_75 (by decide +kernel),
  fun l0 l1 l2 l3 l4 l5 x y st σ => dn_isub eX7_run dX7_run_78⟩
theorem SX7_run_1 : (∀ (l0 l1 l2 l3 l4 l5 : Option Value) (v : Int32) (σ : dS), den mX7_run 79 [l0, l1, l2, l3, l4, l5] [.int v] σ = some (some (.int v), σ)) := fun l0 l1 l2 l3 l4 l5 v σ => dn_ireturn eX7_run dX7_run_79 rfl
theorem CX7_value (a0 : Nat) (a1 : Int32) (σ : dS) : dcall mX7_value [.ref a0, .int a1] σ = den mX7_value 0 [some (.ref a0), some (.int a1)] [] σ := dcall_den (by decide) rfl
set_option maxRecDepth 20000 in
theorem SX7_value : (∀ (l0 : Option Value) (x : Int32) (st : List Value) (σ : dS), den mX7_value 0 [l0, some (.int x)] st σ = den mX7_value 1 [l0, some (.int x)] (.int x :: st) σ) ∧
  (∀ (l0 l1 : Option Value) (x : Int32) (st : List Value) (σ : dS), den mX7_value 1 [l0, l1] (.int x :: st) σ = den mX7_value 2 [l0, l1] (.long x.toInt64 :: st) σ) ∧
  (∀ (l0 l1 : Option Value) (st : List Value) (σ : dS), den mX7_value 2 [l0, l1] st σ = den mX7_value 3 [l0, l1] (.long (lN 0) :: st) σ) ∧
  (∀ (l0 l1 : Option Value) (st : List Value) (σ : dS), den mX7_value 3 [l0, l1] st σ = den mX7_value 6 [l0, l1] (.long (lN 7) :: st) σ) ∧
  (∀ (l0 l1 : Option Value) (a0 : Int64) (a1 : Int64) (a2 : Int64) (σ : dS), den mX7_value 6 [l0, l1] [.long a2, .long a1, .long a0] σ = (dcall mX7_in [.long a0, .long a1, .long a2] σ).bind fun r => den mX7_value 9 [l0, l1] (r.1.toList ++ []) r.2) ∧
  (∀ (l0 l1 : Option Value) (x : Int32) (st : List Value) (σ : dS), den mX7_value 9 [l0, l1] (.int x :: st) σ = if x = 0 then den mX7_value 12 [l0, l1] st σ else den mX7_value 16 [l0, l1] st σ) ∧
  (∀ (l0 l1 : Option Value) (st : List Value) (σ : dS), den mX7_value 12 [l0, l1] st σ = den mX7_value 13 [l0, l1] (.int ((-1)) :: st) σ) ∧
  (∀ (l0 l1 : Option Value) (st : List Value) (σ : dS), den mX7_value 13 [l0, l1] st σ = den mX7_value 33 [l0, l1] st σ) ∧
  (∀ (l1 : Option Value) (x : Nat) (st : List Value) (σ : dS), den mX7_value 16 [some (.ref x), l1] st σ = den mX7_value 17 [some (.ref x), l1] (.ref x :: st) σ) ∧
  (∀ (l0 l1 : Option Value) (q : Nat) (st : List Value) (σ : dS), den mX7_value 17 [l0, l1] (.ref q :: st) σ = (dget σ q 6 20).bind fun v => den mX7_value 20 [l0, l1] (v :: st) σ) ∧
  (∀ (l0 l1 : Option Value) (x : Int32) (st : List Value) (σ : dS), den mX7_value 20 [l0, l1] (.int x :: st) σ = if x = 0 then den mX7_value 32 [l0, l1] st σ else den mX7_value 23 [l0, l1] st σ) ∧
  (∀ (l1 : Option Value) (x : Nat) (st : List Value) (σ : dS), den mX7_value 23 [some (.ref x), l1] st σ = den mX7_value 24 [some (.ref x), l1] (.ref x :: st) σ) ∧
  (∀ (l0 l1 : Option Value) (q : Nat) (st : List Value) (σ : dS), den mX7_value 24 [l0, l1] (.ref q :: st) σ = (dget σ q 6 19).bind fun v => den mX7_value 27 [l0, l1] (v :: st) σ) ∧
  (∀ (l0 : Option Value) (x : Int32) (st : List Value) (σ : dS), den mX7_value 27 [l0, some (.int x)] st σ = den mX7_value 28 [l0, some (.int x)] (.int x :: st) σ) ∧
  (∀ (l0 l1 : Option Value) (q : Nat) (i : Int32) (st : List Value) (σ : dS), den mX7_value 28 [l0, l1] (.int i :: .ref q :: st) σ = if q ≤ dN then (dald σ q 0 i).bind (fun v => den mX7_value 29 [l0, l1] (.int v :: st) σ) else none) ∧
  (∀ (l0 l1 : Option Value) (st : List Value) (σ : dS), den mX7_value 29 [l0, l1] st σ = den mX7_value 33 [l0, l1] st σ) ∧
  (∀ (l0 l1 : Option Value) (st : List Value) (σ : dS), den mX7_value 32 [l0, l1] st σ = den mX7_value 33 [l0, l1] (.int (nI 0) :: st) σ) ∧
  (∀ (l0 l1 : Option Value) (v : Int32) (σ : dS), den mX7_value 33 [l0, l1] [.int v] σ = some (some (.int v), σ)) :=
  ⟨fun l0 x st σ => dn_iload_n eX7_value dX7_value_0 rfl,
  fun l0 l1 x st σ => dn_i2l eX7_value dX7_value_1,
  fun l0 l1 st σ => dn_lconst eX7_value dX7_value_2 kc_lconst_0,
  fun l0 l1 st σ => dn_ldc2_w (w := 7) (p := 1068) eX7_value dX7_value_3 (by decide +kernel) (by decide +kernel),
  fun l0 l1 a0 a1 a2 σ => dn_callS (e := (1, 102, 879)) (as := [.long a0, .long a1, .long a2]) (rest := []) eX7_value dX7_value_6 (by decide +kernel) (Or.inl rfl) (by decide +kernel) rfl (dcat_le rfl) (dlen_le rfl) rfl,
  fun l0 l1 x st σ => dn_if_ne eX7_value dX7_value_9 (by decide),
  fun l0 l1 st σ => dn_iconst eX7_value dX7_value_12 kc_iconst_m1,
  fun l0 l1 st σ => dn_goto eX7_value dX7_value_13 (by decide),
  fun l1 x st σ => dn_aload_n eX7_value dX7_value_16 rfl,
  fun l0 l1 q st σ => dn_getfield (f := (6, 20, 791)) eX7_value dX7_value_17 (by decide +kernel),
  fun l0 l1 x st σ => dn_if_eq eX7_value dX7_value_20 (by decide),
  fun l1 x st σ => dn_aload_n eX7_value dX7_value_23 rfl,
  fun l0 l1 q st σ => dn_getfield (f := (6, 19, 790)) eX7_value dX7_value_24 (by decide +kernel),
  fun l0 x st σ => dn_iload_n eX7_value dX7_value_27 rfl,
  fun l0 l1 q i st σ => dn_iaload eX7_value dX7_value_28,
  fun l0 l1 st σ => dn_goto eX7_value dX7_value_29 (by decide),
  fun l0 l1 st σ => dn_iconst eX7_value dX7_value_32 kc_iconst_0,
  fun l0 l1 v σ => dn_ireturn eX7_value dX7_value_33 rfl⟩
theorem CX7_spent (a0 : Nat) (σ : dS) : dcall mX7_spent [.ref a0] σ = den mX7_spent 0 [some (.ref a0)] [] σ := dcall_den (by decide) rfl
set_option maxRecDepth 20000 in
theorem SX7_spent : (∀ (x : Nat) (st : List Value) (σ : dS), den mX7_spent 0 [some (.ref x)] st σ = den mX7_spent 1 [some (.ref x)] (.ref x :: st) σ) ∧
  (∀ (l0 : Option Value) (q : Nat) (st : List Value) (σ : dS), den mX7_spent 1 [l0] (.ref q :: st) σ = (dget σ q 6 20).bind fun v => den mX7_spent 4 [l0] (v :: st) σ) ∧
  (∀ (l0 : Option Value) (x : Int32) (st : List Value) (σ : dS), den mX7_spent 4 [l0] (.int x :: st) σ = if x = 0 then den mX7_spent 14 [l0] st σ else den mX7_spent 7 [l0] st σ) ∧
  (∀ (x : Nat) (st : List Value) (σ : dS), den mX7_spent 7 [some (.ref x)] st σ = den mX7_spent 8 [some (.ref x)] (.ref x :: st) σ) ∧
  (∀ (l0 : Option Value) (q : Nat) (st : List Value) (σ : dS), den mX7_spent 8 [l0] (.ref q :: st) σ = (dget σ q 6 21).bind fun v => den mX7_spent 11 [l0] (v :: st) σ) ∧
  (∀ (l0 : Option Value) (st : List Value) (σ : dS), den mX7_spent 11 [l0] st σ = den mX7_spent 16 [l0] st σ) ∧
  (∀ (l0 : Option Value) (st : List Value) (σ : dS), den mX7_spent 14 [l0] st σ = den mX7_spent 16 [l0] (.int ((-4)) :: st) σ) ∧
  (∀ (l0 : Option Value) (v : Int32) (σ : dS), den mX7_spent 16 [l0] [.int v] σ = some (some (.int v), σ)) :=
  ⟨fun x st σ => dn_aload_n eX7_spent dX7_spent_0 rfl,
  fun l0 q st σ => dn_getfield (f := (6, 20, 791)) eX7_spent dX7_spent_1 (by decide +kernel),
  fun l0 x st σ => dn_if_eq eX7_spent dX7_spent_4 (by decide),
  fun x st σ => dn_aload_n eX7_spent dX7_spent_7 rfl,
  fun l0 q st σ => dn_getfield (f := (6, 21, 792)) eX7_spent dX7_spent_8 (by decide +kernel),
  fun l0 st σ => dn_goto eX7_spent dX7_spent_11 (by decide),
  fun l0 st σ => dn_bipush eX7_spent dX7_spent_14 kc_bipush_m4,
  fun l0 v σ => dn_ireturn eX7_spent dX7_spent_16 rfl⟩
theorem CX7_draws (a0 : Nat) (σ : dS) : dcall mX7_draws [.ref a0] σ = den mX7_draws 0 [some (.ref a0)] [] σ := dcall_den (by decide) rfl
set_option maxRecDepth 20000 in
theorem SX7_draws : (∀ (x : Nat) (st : List Value) (σ : dS), den mX7_draws 0 [some (.ref x)] st σ = den mX7_draws 1 [some (.ref x)] (.ref x :: st) σ) ∧
  (∀ (x : Nat) (st : List Value) (σ : dS), den mX7_draws 1 [some (.ref x)] st σ = den mX7_draws 2 [some (.ref x)] (.ref x :: st) σ) ∧
  (∀ (l0 : Option Value) (q : Nat) (st : List Value) (σ : dS), den mX7_draws 2 [l0] (.ref q :: st) σ = (dget σ q 6 27).bind fun v => den mX7_draws 5 [l0] (v :: st) σ) ∧
  (∀ (l0 : Option Value) (st : List Value) (σ : dS), den mX7_draws 5 [l0] st σ = den mX7_draws 8 [l0] (.int 1103515245 :: st) σ) ∧
  (∀ (l0 : Option Value) (x y : Int32) (st : List Value) (σ : dS), den mX7_draws 8 [l0] (.int y :: .int x :: st) σ = den mX7_draws 9 [l0] (.int (x * y) :: st) σ) ∧
  (∀ (l0 : Option Value) (st : List Value) (σ : dS), den mX7_draws 9 [l0] st σ = den mX7_draws 12 [l0] (.int (nI 12345) :: st) σ) ∧
  (∀ (l0 : Option Value) (x y : Int32) (st : List Value) (σ : dS), den mX7_draws 12 [l0] (.int y :: .int x :: st) σ = den mX7_draws 13 [l0] (.int (x + y) :: st) σ) ∧
  (∀ (l0 : Option Value) (x : Int32) (q : Nat) (st : List Value) (σ : dS), den mX7_draws 13 [l0] (.int x :: .ref q :: st) σ = (dput σ q 6 27 (.int x)).bind fun τ => den mX7_draws 16 [l0] st τ) ∧
  (∀ (x : Nat) (st : List Value) (σ : dS), den mX7_draws 16 [some (.ref x)] st σ = den mX7_draws 17 [some (.ref x)] (.ref x :: st) σ) ∧
  (∀ (l0 : Option Value) (q : Nat) (st : List Value) (σ : dS), den mX7_draws 17 [l0] (.ref q :: st) σ = (dget σ q 6 27).bind fun v => den mX7_draws 20 [l0] (v :: st) σ) ∧
  (∀ (l0 : Option Value) (st : List Value) (σ : dS), den mX7_draws 20 [l0] st σ = den mX7_draws 22 [l0] (.int (nI 16) :: st) σ) ∧
  (∀ (l0 : Option Value) (x y : Int32) (st : List Value) (σ : dS), den mX7_draws 22 [l0] (.int y :: .int x :: st) σ = den mX7_draws 23 [l0] (.int (x >>> (y &&& 31)) :: st) σ) ∧
  (∀ (l0 : Option Value) (st : List Value) (σ : dS), den mX7_draws 23 [l0] st σ = den mX7_draws 26 [l0] (.int (nI 32767) :: st) σ) ∧
  (∀ (l0 : Option Value) (x y : Int32) (st : List Value) (σ : dS), den mX7_draws 26 [l0] (.int y :: .int x :: st) σ = den mX7_draws 27 [l0] (.int (x &&& y) :: st) σ) ∧
  (∀ (l0 : Option Value) (st : List Value) (σ : dS), den mX7_draws 27 [l0] st σ = den mX7_draws 29 [l0] (.int (nI 9) :: st) σ) ∧
  (∀ (l0 : Option Value) (x y : Int32) (st : List Value) (σ : dS), den mX7_draws 29 [l0] (.int y :: .int x :: st) σ = if y = 0 then none else den mX7_draws 30 [l0] (.int (x - x / y * y) :: st) σ) ∧
  (∀ (l0 : Option Value) (st : List Value) (σ : dS), den mX7_draws 30 [l0] st σ = den mX7_draws 31 [l0] (.int (nI 4) :: st) σ) ∧
  (∀ (l0 : Option Value) (x y : Int32) (st : List Value) (σ : dS), den mX7_draws 31 [l0] (.int y :: .int x :: st) σ = den mX7_draws 32 [l0] (.int (x - y) :: st) σ) ∧
  (∀ (l0 : Option Value) (v : Int32) (σ : dS), den mX7_draws 32 [l0] [.int v] σ = some (some (.int v), σ)) :=
  ⟨fun x st σ => dn_aload_n eX7_draws dX7_draws_0 rfl,
  fun x st σ => dn_aload_n eX7_draws dX7_draws_1 rfl,
  fun l0 q st σ => dn_getfield (f := (6, 27, 798)) eX7_draws dX7_draws_2 (by decide +kernel),
  fun l0 st σ => dn_ldc_w (v := (1103515245, 1085)) eX7_draws dX7_draws_5 (by decide +kernel),
  fun l0 x y st σ => dn_imul eX7_draws dX7_draws_8,
  fun l0 st σ => dn_sipush eX7_draws dX7_draws_9 kc_sipush_12345,
  fun l0 x y st σ => dn_iadd eX7_draws dX7_draws_12,
  fun l0 x q st σ => dn_putfield (f := (6, 27, 798)) (ty := .int) eX7_draws dX7_draws_13 (by decide +kernel) (by decide +kernel) rfl,
  fun x st σ => dn_aload_n eX7_draws dX7_draws_16 rfl,
  fun l0 q st σ => dn_getfield (f := (6, 27, 798)) eX7_draws dX7_draws_17 (by decide +kernel),
  fun l0 st σ => dn_bipush eX7_draws dX7_draws_20 kc_bipush_16,
  fun l0 x y st σ => dn_ishr eX7_draws dX7_draws_22,
  fun l0 st σ => dn_sipush eX7_draws dX7_draws_23 kc_sipush_32767,
  fun l0 x y st σ => dn_iand eX7_draws dX7_draws_26,
  fun l0 st σ => dn_bipush eX7_draws dX7_draws_27 kc_bipush_9,
  fun l0 x y st σ => dn_irem eX7_draws dX7_draws_29,
  fun l0 st σ => dn_iconst eX7_draws dX7_draws_30 kc_iconst_4,
  fun l0 x y st σ => dn_isub eX7_draws dX7_draws_31,
  fun l0 v σ => dn_ireturn eX7_draws dX7_draws_32 rfl⟩
theorem CX7_runs (a0 : Nat) (a1 : Int32) (a2 : Int32) (a3 : Int32) (σ : dS) : dcall mX7_runs [.ref a0, .int a1, .int a2, .int a3] σ = den mX7_runs 0 [some (.ref a0), some (.int a1), some (.int a2), some (.int a3), none, none, none, none, none, none] [] σ := dcall_den (by decide) rfl
theorem hX7_runs_35 (l0 l1 l2 l3 l4 l5 l7 l8 l9 : Option Value) (x : Int32) (st : List Value) (σ : dS) : den mX7_runs 35 [l0, l1, l2, l3, l4, l5, some (.int x), l7, l8, l9] st σ = den mX7_runs 37 [l0, l1, l2, l3, l4, l5, some (.int x), l7, l8, l9] (.int x :: st) σ := dn_iload eX7_runs dX7_runs_35 rfl
theorem rX7_runs_42 (l0 l1 l2 l3 l4 l5 l6 l7 l8 l9 : Option Value) (q : Nat) (σ : dS) : den mX7_runs 42 [l0, l1, l2, l3, l4, l5, l6, l7, l8, l9] [.ref q] σ = if disO σ q 6 = true then ((dcall mX7_draws [.ref q] σ).bind fun r => den mX7_runs 45 [l0, l1, l2, l3, l4, l5, l6, l7, l8, l9] (r.1.toList ++ []) r.2) else none := by
  by_cases h : disO σ q 6 = true
  · rw [if_pos h]; exact dn_callV (e := (0, 154, 1081)) (as := []) (rest := []) eX7_runs dX7_runs_42 (by decide +kernel) rfl (by decide +kernel) rfl (dcat_le rfl) (dlen_le rfl) rfl h
  · rw [if_neg h]; exact den_noV (e := (0, 154, 1081)) (as := []) (rest := []) eX7_runs dX7_runs_42 (by decide +kernel) rfl rfl rfl h
theorem rX7_runs_48 (l0 l1 l2 l3 l4 l5 l6 l7 l8 l9 : Option Value) (q : Nat) (σ : dS) : den mX7_runs 48 [l0, l1, l2, l3, l4, l5, l6, l7, l8, l9] [.ref q] σ = if disO σ q 6 = true then ((dcall mX7_draws [.ref q] σ).bind fun r => den mX7_runs 51 [l0, l1, l2, l3, l4, l5, l6, l7, l8, l9] (r.1.toList ++ []) r.2) else none := by
  by_cases h : disO σ q 6 = true
  · rw [if_pos h]; exact dn_callV (e := (0, 154, 1081)) (as := []) (rest := []) eX7_runs dX7_runs_48 (by decide +kernel) rfl (by decide +kernel) rfl (dcat_le rfl) (dlen_le rfl) rfl h
  · rw [if_neg h]; exact den_noV (e := (0, 154, 1081)) (as := []) (rest := []) eX7_runs dX7_runs_48 (by decide +kernel) rfl rfl rfl h
theorem rX7_runs_54 (l0 l1 l2 l3 l4 l5 l6 l7 l8 l9 : Option Value) (q : Nat) (σ : dS) : den mX7_runs 54 [l0, l1, l2, l3, l4, l5, l6, l7, l8, l9] [.ref q] σ = if disO σ q 6 = true then ((dcall mX7_draws [.ref q] σ).bind fun r => den mX7_runs 57 [l0, l1, l2, l3, l4, l5, l6, l7, l8, l9] (r.1.toList ++ []) r.2) else none := by
  by_cases h : disO σ q 6 = true
  · rw [if_pos h]; exact dn_callV (e := (0, 154, 1081)) (as := []) (rest := []) eX7_runs dX7_runs_54 (by decide +kernel) rfl (by decide +kernel) rfl (dcat_le rfl) (dlen_le rfl) rfl h
  · rw [if_neg h]; exact den_noV (e := (0, 154, 1081)) (as := []) (rest := []) eX7_runs dX7_runs_54 (by decide +kernel) rfl rfl rfl h
theorem rX7_runs_67 (l0 l1 l2 l3 l4 l5 l6 l7 l8 l9 : Option Value) (b0 : Int32) (b1 : Int32) (b2 : Int32) (b3 : Nat) (q : Nat) (σ : dS) : den mX7_runs 67 [l0, l1, l2, l3, l4, l5, l6, l7, l8, l9] [.ref q, .int b0, .int b1, .int b2, .ref b3] σ = if disO σ q 6 = true then ((dcall mX7_draws [.ref q] σ).bind fun r => den mX7_runs 70 [l0, l1, l2, l3, l4, l5, l6, l7, l8, l9] (r.1.toList ++ [.int b0, .int b1, .int b2, .ref b3]) r.2) else none := by
  by_cases h : disO σ q 6 = true
  · rw [if_pos h]; exact dn_callV (e := (0, 154, 1081)) (as := []) (rest := [.int b0, .int b1, .int b2, .ref b3]) eX7_runs dX7_runs_67 (by decide +kernel) rfl (by decide +kernel) rfl (dcat_le rfl) (dlen_le rfl) rfl h
  · rw [if_neg h]; exact den_noV (e := (0, 154, 1081)) (as := []) (rest := [.int b0, .int b1, .int b2, .ref b3]) eX7_runs dX7_runs_67 (by decide +kernel) rfl rfl rfl h
theorem rX7_runs_70 (l0 l1 l2 l3 l4 l5 l6 l7 l8 l9 : Option Value) (a0 : Int32) (a1 : Int32) (a2 : Int32) (a3 : Int32) (q : Nat) (σ : dS) : den mX7_runs 70 [l0, l1, l2, l3, l4, l5, l6, l7, l8, l9] [.int a3, .int a2, .int a1, .int a0, .ref q] σ = if disO σ q 6 = true then ((dcall mX7_starts [.ref q, .int a0, .int a1, .int a2, .int a3] σ).bind fun r => den mX7_runs 73 [l0, l1, l2, l3, l4, l5, l6, l7, l8, l9] (r.1.toList ++ []) r.2) else none := by
  by_cases h : disO σ q 6 = true
  · rw [if_pos h]; exact dn_callV (e := (0, 146, 1044)) (as := [.int a0, .int a1, .int a2, .int a3]) (rest := []) eX7_runs dX7_runs_70 (by decide +kernel) rfl (by decide +kernel) rfl (dcat_le rfl) (dlen_le rfl) rfl h
  · rw [if_neg h]; exact den_noV (e := (0, 146, 1044)) (as := [.int a0, .int a1, .int a2, .int a3]) (rest := []) eX7_runs dX7_runs_70 (by decide +kernel) rfl rfl rfl h
theorem rX7_runs_74 (l0 l1 l2 l3 l4 l5 l6 l7 l8 l9 : Option Value) (q : Nat) (σ : dS) : den mX7_runs 74 [l0, l1, l2, l3, l4, l5, l6, l7, l8, l9] [.ref q] σ = if disO σ q 6 = true then ((dcall mX7_runs1 [.ref q] σ).bind fun r => den mX7_runs 77 [l0, l1, l2, l3, l4, l5, l6, l7, l8, l9] (r.1.toList ++ []) r.2) else none := by
  by_cases h : disO σ q 6 = true
  · rw [if_pos h]; exact dn_callV (e := (0, 150, 1048)) (as := []) (rest := []) eX7_runs dX7_runs_74 (by decide +kernel) rfl (by decide +kernel) rfl (dcat_le rfl) (dlen_le rfl) rfl h
  · rw [if_neg h]; exact den_noV (e := (0, 150, 1048)) (as := []) (rest := []) eX7_runs dX7_runs_74 (by decide +kernel) rfl rfl rfl h
set_option maxRecDepth 20000 in
theorem SX7_runs_0 : (∀ (l0 l1 l3 l4 l5 l6 l7 l8 l9 : Option Value) (x : Int32) (st : List Value) (σ : dS), den mX7_runs 0 [l0, l1, some (.int x), l3, l4, l5, l6, l7, l8, l9] st σ = den mX7_runs 1 [l0, l1, some (.int x), l3, l4, l5, l6, l7, l8, l9] (.int x :: st) σ) ∧
  (∀ (l0 l1 l2 l3 l4 l5 l6 l7 l8 l9 : Option Value) (x : Int32) (st : List Value) (σ : dS), den mX7_runs 1 [l0, l1, l2, l3, l4, l5, l6, l7, l8, l9] (.int x :: st) σ = den mX7_runs 2 [l0, l1, l2, l3, l4, l5, l6, l7, l8, l9] (.long x.toInt64 :: st) σ) ∧
  (∀ (l0 l1 l2 l3 l4 l5 l6 l7 l8 l9 : Option Value) (st : List Value) (σ : dS), den mX7_runs 2 [l0, l1, l2, l3, l4, l5, l6, l7, l8, l9] st σ = den mX7_runs 3 [l0, l1, l2, l3, l4, l5, l6, l7, l8, l9] (.long (lN 1) :: st) σ) ∧
  (∀ (l0 l1 l2 l3 l4 l5 l6 l7 l8 l9 : Option Value) (st : List Value) (σ : dS), den mX7_runs 3 [l0, l1, l2, l3, l4, l5, l6, l7, l8, l9] st σ = den mX7_runs 6 [l0, l1, l2, l3, l4, l5, l6, l7, l8, l9] (.long (lN 100) :: st) σ) ∧
  (∀ (l0 l1 l2 l3 l4 l5 l6 l7 l8 l9 : Option Value) (a0 : Int64) (a1 : Int64) (a2 : Int64) (σ : dS), den mX7_runs 6 [l0, l1, l2, l3, l4, l5, l6, l7, l8, l9] [.long a2, .long a1, .long a0] σ = (dcall mX7_in [.long a0, .long a1, .long a2] σ).bind fun r => den mX7_runs 9 [l0, l1, l2, l3, l4, l5, l6, l7, l8, l9] (r.1.toList ++ []) r.2) ∧
  (∀ (l0 l1 l2 l3 l4 l5 l6 l7 l8 l9 : Option Value) (x : Int32) (st : List Value) (σ : dS), den mX7_runs 9 [l0, l1, l2, l3, l4, l5, l6, l7, l8, l9] (.int x :: st) σ = if x = 0 then den mX7_runs 19 [l0, l1, l2, l3, l4, l5, l6, l7, l8, l9] st σ else den mX7_runs 12 [l0, l1, l2, l3, l4, l5, l6, l7, l8, l9] st σ) ∧
  (∀ (l0 l1 l2 l4 l5 l6 l7 l8 l9 : Option Value) (x : Int32) (st : List Value) (σ : dS), den mX7_runs 12 [l0, l1, l2, some (.int x), l4, l5, l6, l7, l8, l9] st σ = den mX7_runs 13 [l0, l1, l2, some (.int x), l4, l5, l6, l7, l8, l9] (.int x :: st) σ) ∧
  (∀ (l0 l1 l2 l3 l4 l5 l6 l7 l8 l9 : Option Value) (a0 : Int32) (σ : dS), den mX7_runs 13 [l0, l1, l2, l3, l4, l5, l6, l7, l8, l9] [.int a0] σ = (dcall mX7_isPart [.int a0] σ).bind fun r => den mX7_runs 16 [l0, l1, l2, l3, l4, l5, l6, l7, l8, l9] (r.1.toList ++ []) r.2) ∧
  (∀ (l0 l1 l2 l3 l4 l5 l6 l7 l8 l9 : Option Value) (x : Int32) (st : List Value) (σ : dS), den mX7_runs 16 [l0, l1, l2, l3, l4, l5, l6, l7, l8, l9] (.int x :: st) σ = if x = 0 then den mX7_runs 19 [l0, l1, l2, l3, l4, l5, l6, l7, l8, l9] st σ else den mX7_runs 21 [l0, l1, l2, l3, l4, l5, l6, l7, l8, l9] st σ) ∧
  (∀ (l0 l1 l2 l3 l4 l5 l6 l7 l8 l9 : Option Value) (st : List Value) (σ : dS), den mX7_runs 19 [l0, l1, l2, l3, l4, l5, l6, l7, l8, l9] st σ = den mX7_runs 20 [l0, l1, l2, l3, l4, l5, l6, l7, l8, l9] (.int ((-1)) :: st) σ) ∧
  (∀ (l0 l1 l2 l3 l4 l5 l6 l7 l8 l9 : Option Value) (v : Int32) (σ : dS), den mX7_runs 20 [l0, l1, l2, l3, l4, l5, l6, l7, l8, l9] [.int v] σ = some (some (.int v), σ)) ∧
  (∀ (l1 l2 l3 l4 l5 l6 l7 l8 l9 : Option Value) (x : Nat) (st : List Value) (σ : dS), den mX7_runs 21 [some (.ref x), l1, l2, l3, l4, l5, l6, l7, l8, l9] st σ = den mX7_runs 22 [some (.ref x), l1, l2, l3, l4, l5, l6, l7, l8, l9] (.ref x :: st) σ) ∧
  (∀ (l0 l2 l3 l4 l5 l6 l7 l8 l9 : Option Value) (x : Int32) (st : List Value) (σ : dS), den mX7_runs 22 [l0, some (.int x), l2, l3, l4, l5, l6, l7, l8, l9] st σ = den mX7_runs 23 [l0, some (.int x), l2, l3, l4, l5, l6, l7, l8, l9] (.int x :: st) σ) ∧
  (∀ (l0 l1 l2 l3 l4 l5 l6 l7 l8 l9 : Option Value) (x : Int32) (q : Nat) (st : List Value) (σ : dS), den mX7_runs 23 [l0, l1, l2, l3, l4, l5, l6, l7, l8, l9] (.int x :: .ref q :: st) σ = (dput σ q 6 27 (.int x)).bind fun τ => den mX7_runs 26 [l0, l1, l2, l3, l4, l5, l6, l7, l8, l9] st τ) ∧
  (∀ (l0 l1 l2 l3 l4 l5 l6 l7 l8 l9 : Option Value) (st : List Value) (σ : dS), den mX7_runs 26 [l0, l1, l2, l3, l4, l5, l6, l7, l8, l9] st σ = den mX7_runs 27 [l0, l1, l2, l3, l4, l5, l6, l7, l8, l9] (.int (nI 0) :: st) σ) ∧
  (∀ (l0 l1 l2 l4 l5 l6 l7 l8 l9 : Option Value) (x : Int32) (y : Int32) (st : List Value) (σ : dS), den mX7_runs 27 [l0, l1, l2, some (.int y), l4, l5, l6, l7, l8, l9] (.int x :: st) σ = den mX7_runs 29 [l0, l1, l2, some (.int y), some (.int x), l5, l6, l7, l8, l9] st σ) ∧
  (∀ (l0 l1 l2 l3 l4 l5 l6 l7 l8 l9 : Option Value) (st : List Value) (σ : dS), den mX7_runs 29 [l0, l1, l2, l3, l4, l5, l6, l7, l8, l9] st σ = den mX7_runs 30 [l0, l1, l2, l3, l4, l5, l6, l7, l8, l9] (.int (nI 0) :: st) σ) ∧
  (∀ (l0 l1 l2 l3 l5 l6 l7 l8 l9 : Option Value) (x : Int32) (y : Int32) (st : List Value) (σ : dS), den mX7_runs 30 [l0, l1, l2, l3, some (.int y), l5, l6, l7, l8, l9] (.int x :: st) σ = den mX7_runs 32 [l0, l1, l2, l3, some (.int y), some (.int x), l6, l7, l8, l9] st σ) ∧
  (∀ (l0 l1 l2 l3 l4 l5 l6 l7 l8 l9 : Option Value) (st : List Value) (σ : dS), den mX7_runs 32 [l0, l1, l2, l3, l4, l5, l6, l7, l8, l9] st σ = den mX7_runs 33 [l0, l1, l2, l3, l4, l5, l6, l7, l8, l9] (.int (nI 0) :: st) σ) ∧
  (∀ (l0 l1 l2 l3 l4 l6 l7 l8 l9 : Option Value) (x : Int32) (y : Int32) (st : List Value) (σ : dS), den mX7_runs 33 [l0, l1, l2, l3, l4, some (.int y), l6, l7, l8, l9] (.int x :: st) σ = den mX7_runs 35 [l0, l1, l2, l3, l4, some (.int y), some (.int x), l7, l8, l9] st σ) ∧
  (∀ (l0 l1 l3 l4 l5 l6 l7 l8 l9 : Option Value) (x : Int32) (st : List Value) (σ : dS), den mX7_runs 37 [l0, l1, some (.int x), l3, l4, l5, l6, l7, l8, l9] st σ = den mX7_runs 38 [l0, l1, some (.int x), l3, l4, l5, l6, l7, l8, l9] (.int x :: st) σ) ∧
  (∀ (l0 l1 l2 l3 l4 l5 l6 l7 l8 l9 : Option Value) (x y : Int32) (st : List Value) (σ : dS), den mX7_runs 38 [l0, l1, l2, l3, l4, l5, l6, l7, l8, l9] (.int y :: .int x :: st) σ = if x < y then den mX7_runs 41 [l0, l1, l2, l3, l4, l5, l6, l7, l8, l9] st σ else den mX7_runs 114 [l0, l1, l2, l3, l4, l5, l6, l7, l8, l9] st σ) ∧
  (∀ (l1 l2 l3 l4 l5 l6 l7 l8 l9 : Option Value) (x : Nat) (st : List Value) (σ : dS), den mX7_runs 41 [some (.ref x), l1, l2, l3, l4, l5, l6, l7, l8, l9] st σ = den mX7_runs 42 [some (.ref x), l1, l2, l3, l4, l5, l6, l7, l8, l9] (.ref x :: st) σ) ∧
  (∀ (l0 l1 l2 l3 l4 l5 l6 l7 l8 l9 : Option Value) (q : Nat) (σ : dS), den mX7_runs 42 [l0, l1, l2, l3, l4, l5, l6, l7, l8, l9] [.ref q] σ = if disO σ q 6 = true then ((dcall mX7_draws [.ref q] σ).bind fun r => den mX7_runs 45 [l0, l1, l2, l3, l4, l5, l6, l7, l8, l9] (r.1.toList ++ []) r.2) else none) ∧
  (∀ (l0 l1 l2 l3 l4 l5 l7 l8 l9 : Option Value) (x : Int32) (y : Int32) (st : List Value) (σ : dS), den mX7_runs 45 [l0, l1, l2, l3, l4, l5, some (.int y), l7, l8, l9] (.int x :: st) σ = den mX7_runs 47 [l0, l1, l2, l3, l4, l5, some (.int y), some (.int x), l8, l9] st σ) ∧
  (∀ (l1 l2 l3 l4 l5 l6 l7 l8 l9 : Option Value) (x : Nat) (st : List Value) (σ : dS), den mX7_runs 47 [some (.ref x), l1, l2, l3, l4, l5, l6, l7, l8, l9] st σ = den mX7_runs 48 [some (.ref x), l1, l2, l3, l4, l5, l6, l7, l8, l9] (.ref x :: st) σ) ∧
  (∀ (l0 l1 l2 l3 l4 l5 l6 l7 l8 l9 : Option Value) (q : Nat) (σ : dS), den mX7_runs 48 [l0, l1, l2, l3, l4, l5, l6, l7, l8, l9] [.ref q] σ = if disO σ q 6 = true then ((dcall mX7_draws [.ref q] σ).bind fun r => den mX7_runs 51 [l0, l1, l2, l3, l4, l5, l6, l7, l8, l9] (r.1.toList ++ []) r.2) else none) ∧
  (∀ (l0 l1 l2 l3 l4 l5 l6 l8 l9 : Option Value) (x : Int32) (y : Int32) (st : List Value) (σ : dS), den mX7_runs 51 [l0, l1, l2, l3, l4, l5, l6, some (.int y), l8, l9] (.int x :: st) σ = den mX7_runs 53 [l0, l1, l2, l3, l4, l5, l6, some (.int y), some (.int x), l9] st σ) ∧
  (∀ (l1 l2 l3 l4 l5 l6 l7 l8 l9 : Option Value) (x : Nat) (st : List Value) (σ : dS), den mX7_runs 53 [some (.ref x), l1, l2, l3, l4, l5, l6, l7, l8, l9] st σ = den mX7_runs 54 [some (.ref x), l1, l2, l3, l4, l5, l6, l7, l8, l9] (.ref x :: st) σ) ∧
  (∀ (l0 l1 l2 l3 l4 l5 l6 l7 l8 l9 : Option Value) (q : Nat) (σ : dS), den mX7_runs 54 [l0, l1, l2, l3, l4, l5, l6, l7, l8, l9] [.ref q] σ = if disO σ q 6 = true then ((dcall mX7_draws [.ref q] σ).bind fun r => den mX7_runs 57 [l0, l1, l2, l3, l4, l5, l6, l7, l8, l9] (r.1.toList ++ []) r.2) else none) ∧
  (∀ (l0 l1 l2 l3 l4 l5 l6 l7 l9 : Option Value) (x : Int32) (y : Int32) (st : List Value) (σ : dS), den mX7_runs 57 [l0, l1, l2, l3, l4, l5, l6, l7, some (.int y), l9] (.int x :: st) σ = den mX7_runs 59 [l0, l1, l2, l3, l4, l5, l6, l7, some (.int y), some (.int x)] st σ) ∧
  (∀ (l1 l2 l3 l4 l5 l6 l7 l8 l9 : Option Value) (x : Nat) (st : List Value) (σ : dS), den mX7_runs 59 [some (.ref x), l1, l2, l3, l4, l5, l6, l7, l8, l9] st σ = den mX7_runs 60 [some (.ref x), l1, l2, l3, l4, l5, l6, l7, l8, l9] (.ref x :: st) σ) ∧
  (∀ (l0 l1 l2 l3 l4 l5 l6 l8 l9 : Option Value) (x : Int32) (st : List Value) (σ : dS), den mX7_runs 60 [l0, l1, l2, l3, l4, l5, l6, some (.int x), l8, l9] st σ = den mX7_runs 62 [l0, l1, l2, l3, l4, l5, l6, some (.int x), l8, l9] (.int x :: st) σ) ∧
  (∀ (l0 l1 l2 l3 l4 l5 l6 l7 l9 : Option Value) (x : Int32) (st : List Value) (σ : dS), den mX7_runs 62 [l0, l1, l2, l3, l4, l5, l6, l7, some (.int x), l9] st σ = den mX7_runs 64 [l0, l1, l2, l3, l4, l5, l6, l7, some (.int x), l9] (.int x :: st) σ) ∧
  (∀ (l0 l1 l2 l3 l4 l5 l6 l7 l8 : Option Value) (x : Int32) (st : List Value) (σ : dS), den mX7_runs 64 [l0, l1, l2, l3, l4, l5, l6, l7, l8, some (.int x)] st σ = den mX7_runs 66 [l0, l1, l2, l3, l4, l5, l6, l7, l8, some (.int x)] (.int x :: st) σ) ∧
  (∀ (l1 l2 l3 l4 l5 l6 l7 l8 l9 : Option Value) (x : Nat) (st : List Value) (σ : dS), den mX7_runs 66 [some (.ref x), l1, l2, l3, l4, l5, l6, l7, l8, l9] st σ = den mX7_runs 67 [some (.ref x), l1, l2, l3, l4, l5, l6, l7, l8, l9] (.ref x :: st) σ) ∧
  (∀ (l0 l1 l2 l3 l4 l5 l6 l7 l8 l9 : Option Value) (b0 : Int32) (b1 : Int32) (b2 : Int32) (b3 : Nat) (q : Nat) (σ : dS), den mX7_runs 67 [l0, l1, l2, l3, l4, l5, l6, l7, l8, l9] [.ref q, .int b0, .int b1, .int b2, .ref b3] σ = if disO σ q 6 = true then ((dcall mX7_draws [.ref q] σ).bind fun r => den mX7_runs 70 [l0, l1, l2, l3, l4, l5, l6, l7, l8, l9] (r.1.toList ++ [.int b0, .int b1, .int b2, .ref b3]) r.2) else none) ∧
  (∀ (l0 l1 l2 l3 l4 l5 l6 l7 l8 l9 : Option Value) (a0 : Int32) (a1 : Int32) (a2 : Int32) (a3 : Int32) (q : Nat) (σ : dS), den mX7_runs 70 [l0, l1, l2, l3, l4, l5, l6, l7, l8, l9] [.int a3, .int a2, .int a1, .int a0, .ref q] σ = if disO σ q 6 = true then ((dcall mX7_starts [.ref q, .int a0, .int a1, .int a2, .int a3] σ).bind fun r => den mX7_runs 73 [l0, l1, l2, l3, l4, l5, l6, l7, l8, l9] (r.1.toList ++ []) r.2) else none) ∧
  (∀ (l1 l2 l3 l4 l5 l6 l7 l8 l9 : Option Value) (x : Nat) (st : List Value) (σ : dS), den mX7_runs 73 [some (.ref x), l1, l2, l3, l4, l5, l6, l7, l8, l9] st σ = den mX7_runs 74 [some (.ref x), l1, l2, l3, l4, l5, l6, l7, l8, l9] (.ref x :: st) σ) ∧
  (∀ (l0 l1 l2 l3 l4 l5 l6 l7 l8 l9 : Option Value) (q : Nat) (σ : dS), den mX7_runs 74 [l0, l1, l2, l3, l4, l5, l6, l7, l8, l9] [.ref q] σ = if disO σ q 6 = true then ((dcall mX7_runs1 [.ref q] σ).bind fun r => den mX7_runs 77 [l0, l1, l2, l3, l4, l5, l6, l7, l8, l9] (r.1.toList ++ []) r.2) else none) :=
  ⟨fun l0 l1 l3 l4 l5 l6 l7 l8 l9 x st σ => dn_iload_n eX7_runs dX7_runs_0 rfl,
  fun l0 l1 l2 l3 l4 l5 l6 l7 l8 l9 x st σ => dn_i2l eX7_runs dX7_runs_1,
  fun l0 l1 l2 l3 l4 l5 l6 l7 l8 l9 st σ => dn_lconst eX7_runs dX7_runs_2 kc_lconst_1,
  fun l0 l1 l2 l3 l4 l5 l6 l7 l8 l9 st σ => dn_ldc2_w (w := 100) (p := 1077) eX7_runs dX7_runs_3 (by decide +kernel) (by decide +kernel),
  fun l0 l1 l2 l3 l4 l5 l6 l7 l8 l9 a0 a1 a2 σ => dn_callS (e := (1, 102, 879)) (as := [.long a0, .long a1, .long a2]) (rest := []) eX7_runs dX7_runs_6 (by decide +kernel) (Or.inl rfl) (by decide +kernel) rfl (dcat_le rfl) (dlen_le rfl) rfl,
  fun l0 l1 l2 l3 l4 l5 l6 l7 l8 l9 x st σ => dn_if_eq eX7_runs dX7_runs_9 (by decide),
  fun l0 l1 l2 l4 l5 l6 l7 l8 l9 x st σ => dn_iload_n eX7_runs dX7_runs_12 rfl,
  fun l0 l1 l2 l3 l4 l5 l6 l7 l8 l9 a0 σ => dn_callS (e := (1, 127, 1078)) (as := [.int a0]) (rest := []) eX7_runs dX7_runs_13 (by decide +kernel) (Or.inl rfl) (by decide +kernel) rfl (dcat_le rfl) (dlen_le rfl) rfl,
  fun l0 l1 l2 l3 l4 l5 l6 l7 l8 l9 x st σ => dn_if_ne eX7_runs dX7_runs_16 (by decide),
  fun l0 l1 l2 l3 l4 l5 l6 l7 l8 l9 st σ => dn_iconst eX7_runs dX7_runs_19 kc_iconst_m1,
  fun l0 l1 l2 l3 l4 l5 l6 l7 l8 l9 v σ => dn_ireturn eX7_runs dX7_runs_20 rfl,
  fun l1 l2 l3 l4 l5 l6 l7 l8 l9 x st σ => dn_aload_n eX7_runs dX7_runs_21 rfl,
  fun l0 l2 l3 l4 l5 l6 l7 l8 l9 x st σ => dn_iload_n eX7_runs dX7_runs_22 rfl,
  fun l0 l1 l2 l3 l4 l5 l6 l7 l8 l9 x q st σ => dn_putfield (f := (6, 27, 798)) (ty := .int) eX7_runs dX7_runs_23 (by decide +kernel) (by decide +kernel) rfl,
  fun l0 l1 l2 l3 l4 l5 l6 l7 l8 l9 st σ => dn_iconst eX7_runs dX7_runs_26 kc_iconst_0,
  fun l0 l1 l2 l4 l5 l6 l7 l8 l9 x y st σ => dn_istore eX7_runs dX7_runs_27 rfl,
  fun l0 l1 l2 l3 l4 l5 l6 l7 l8 l9 st σ => dn_iconst eX7_runs dX7_runs_29 kc_iconst_0,
  fun l0 l1 l2 l3 l5 l6 l7 l8 l9 x y st σ => dn_istore eX7_runs dX7_runs_30 rfl,
  fun l0 l1 l2 l3 l4 l5 l6 l7 l8 l9 st σ => dn_iconst eX7_runs dX7_runs_32 kc_iconst_0,
  fun l0 l1 l2 l3 l4 l6 l7 l8 l9 x y st σ => dn_istore eX7_runs dX7_runs_33 rfl,
  fun l0 l1 l3 l4 l5 l6 l7 l8 l9 x st σ => dn_iload_n eX7_runs dX7_runs_37 rfl,
  fun l0 l1 l2 l3 l4 l5 l6 l7 l8 l9 x y st σ => dn_icmp_ge eX7_runs dX7_runs_38 (by decide),
  fun l1 l2 l3 l4 l5 l6 l7 l8 l9 x st σ => dn_aload_n eX7_runs dX7_runs_41 rfl,
  fun l0 l1 l2 l3 l4 l5 l6 l7 l8 l9 q σ => rX7_runs_42 l0 l1 l2 l3 l4 l5 l6 l7 l8 l9 q σ,
  fun l0 l1 l2 l3 l4 l5 l7 l8 l9 x y st σ => dn_istore eX7_runs dX7_runs_45 rfl,
  fun l1 l2 l3 l4 l5 l6 l7 l8 l9 x st σ => dn_aload_n eX7_runs dX7_runs_47 rfl,
  fun l0 l1 l2 l3 l4 l5 l6 l7 l8 l9 q σ => rX7_runs_48 l0 l1 l2 l3 l4 l5 l6 l7 l8 l9 q σ,
  fun l0 l1 l2 l3 l4 l5 l6 l8 l9 x y st σ => dn_istore eX7_runs dX7_runs_51 rfl,
  fun l1 l2 l3 l4 l5 l6 l7 l8 l9 x st σ => dn_aload_n eX7_runs dX7_runs_53 rfl,
  fun l0 l1 l2 l3 l4 l5 l6 l7 l8 l9 q σ => rX7_runs_54 l0 l1 l2 l3 l4 l5 l6 l7 l8 l9 q σ,
  fun l0 l1 l2 l3 l4 l5 l6 l7 l9 x y st σ => dn_istore eX7_runs dX7_runs_57 rfl,
  fun l1 l2 l3 l4 l5 l6 l7 l8 l9 x st σ => dn_aload_n eX7_runs dX7_runs_59 rfl,
  fun l0 l1 l2 l3 l4 l5 l6 l8 l9 x st σ => dn_iload eX7_runs dX7_runs_60 rfl,
  fun l0 l1 l2 l3 l4 l5 l6 l7 l9 x st σ => dn_iload eX7_runs dX7_runs_62 rfl,
  fun l0 l1 l2 l3 l4 l5 l6 l7 l8 x st σ => dn_iload eX7_runs dX7_runs_64 rfl,
  fun l1 l2 l3 l4 l5 l6 l7 l8 l9 x st σ => dn_aload_n eX7_runs dX7_runs_66 rfl,
  fun l0 l1 l2 l3 l4 l5 l6 l7 l8 l9 b0 b1 b2 b3 q σ => rX7_runs_67 l0 l1 l2 l3 l4 l5 l6 l7 l8 l9 b0 b1 b2 b3 q σ,
  fun l0 l1 l2 l3 l4 l5 l6 l7 l8 l9 a0 a1 a2 a3 q σ => rX7_runs_70 l0 l1 l2 l3 l4 l5 l6 l7 l8 l9 a0 a1 a2 a3 q σ,
  fun l1 l2 l3 l4 l5 l6 l7 l8 l9 x st σ => dn_aload_n eX7_runs dX7_runs_73 rfl,
  fun l0 l1 l2 l3 l4 l5 l6 l7 l8 l9 q σ => rX7_runs_74 l0 l1 l2 l3 l4 l5 l6 l7 l8 l9 q σ⟩
set_option maxRecDepth 20000 in
theorem SX7_runs_1 : (∀ (l0 l1 l2 l3 l5 l6 l7 l8 l9 : Option Value) (x : Int32) (st : List Value) (σ : dS), den mX7_runs 77 [l0, l1, l2, l3, some (.int x), l5, l6, l7, l8, l9] st σ = den mX7_runs 79 [l0, l1, l2, l3, some (.int x), l5, l6, l7, l8, l9] (.int x :: st) σ) ∧
  (∀ (l1 l2 l3 l4 l5 l6 l7 l8 l9 : Option Value) (x : Nat) (st : List Value) (σ : dS), den mX7_runs 79 [some (.ref x), l1, l2, l3, l4, l5, l6, l7, l8, l9] st σ = den mX7_runs 80 [some (.ref x), l1, l2, l3, l4, l5, l6, l7, l8, l9] (.ref x :: st) σ) ∧
  (∀ (l0 l1 l2 l3 l4 l5 l6 l7 l8 l9 : Option Value) (q : Nat) (st : List Value) (σ : dS), den mX7_runs 80 [l0, l1, l2, l3, l4, l5, l6, l7, l8, l9] (.ref q :: st) σ = (dget σ q 6 26).bind fun v => den mX7_runs 83 [l0, l1, l2, l3, l4, l5, l6, l7, l8, l9] (v :: st) σ) ∧
  (∀ (l0 l1 l2 l3 l4 l5 l6 l7 l8 l9 : Option Value) (st : List Value) (σ : dS), den mX7_runs 83 [l0, l1, l2, l3, l4, l5, l6, l7, l8, l9] st σ = den mX7_runs 85 [l0, l1, l2, l3, l4, l5, l6, l7, l8, l9] (.int ((-4)) :: st) σ) ∧
  (∀ (l0 l1 l2 l3 l4 l5 l6 l7 l8 l9 : Option Value) (x y : Int32) (st : List Value) (σ : dS), den mX7_runs 85 [l0, l1, l2, l3, l4, l5, l6, l7, l8, l9] (.int y :: .int x :: st) σ = if x = y then den mX7_runs 88 [l0, l1, l2, l3, l4, l5, l6, l7, l8, l9] st σ else den mX7_runs 92 [l0, l1, l2, l3, l4, l5, l6, l7, l8, l9] st σ) ∧
  (∀ (l0 l1 l2 l3 l4 l5 l6 l7 l8 l9 : Option Value) (st : List Value) (σ : dS), den mX7_runs 88 [l0, l1, l2, l3, l4, l5, l6, l7, l8, l9] st σ = den mX7_runs 89 [l0, l1, l2, l3, l4, l5, l6, l7, l8, l9] (.int (nI 1) :: st) σ) ∧
  (∀ (l0 l1 l2 l3 l4 l5 l6 l7 l8 l9 : Option Value) (st : List Value) (σ : dS), den mX7_runs 89 [l0, l1, l2, l3, l4, l5, l6, l7, l8, l9] st σ = den mX7_runs 93 [l0, l1, l2, l3, l4, l5, l6, l7, l8, l9] st σ) ∧
  (∀ (l0 l1 l2 l3 l4 l5 l6 l7 l8 l9 : Option Value) (st : List Value) (σ : dS), den mX7_runs 92 [l0, l1, l2, l3, l4, l5, l6, l7, l8, l9] st σ = den mX7_runs 93 [l0, l1, l2, l3, l4, l5, l6, l7, l8, l9] (.int (nI 0) :: st) σ) ∧
  (∀ (l0 l1 l2 l3 l4 l5 l6 l7 l8 l9 : Option Value) (a0 : Int32) (b0 : Int32) (σ : dS), den mX7_runs 93 [l0, l1, l2, l3, l4, l5, l6, l7, l8, l9] [.int a0, .int b0] σ = (dcall mX7_flag [.int a0] σ).bind fun r => den mX7_runs 96 [l0, l1, l2, l3, l4, l5, l6, l7, l8, l9] (r.1.toList ++ [.int b0]) r.2) ∧
  (∀ (l0 l1 l2 l3 l4 l5 l6 l7 l8 l9 : Option Value) (x y : Int32) (st : List Value) (σ : dS), den mX7_runs 96 [l0, l1, l2, l3, l4, l5, l6, l7, l8, l9] (.int y :: .int x :: st) σ = den mX7_runs 97 [l0, l1, l2, l3, l4, l5, l6, l7, l8, l9] (.int (x + y) :: st) σ) ∧
  (∀ (l0 l1 l2 l4 l5 l6 l7 l8 l9 : Option Value) (x : Int32) (y : Int32) (st : List Value) (σ : dS), den mX7_runs 97 [l0, l1, l2, some (.int y), l4, l5, l6, l7, l8, l9] (.int x :: st) σ = den mX7_runs 99 [l0, l1, l2, some (.int y), some (.int x), l5, l6, l7, l8, l9] st σ) ∧
  (∀ (l0 l1 l2 l3 l4 l6 l7 l8 l9 : Option Value) (x : Int32) (st : List Value) (σ : dS), den mX7_runs 99 [l0, l1, l2, l3, l4, some (.int x), l6, l7, l8, l9] st σ = den mX7_runs 101 [l0, l1, l2, l3, l4, some (.int x), l6, l7, l8, l9] (.int x :: st) σ) ∧
  (∀ (l1 l2 l3 l4 l5 l6 l7 l8 l9 : Option Value) (x : Nat) (st : List Value) (σ : dS), den mX7_runs 101 [some (.ref x), l1, l2, l3, l4, l5, l6, l7, l8, l9] st σ = den mX7_runs 102 [some (.ref x), l1, l2, l3, l4, l5, l6, l7, l8, l9] (.ref x :: st) σ) ∧
  (∀ (l0 l1 l2 l3 l4 l5 l6 l7 l8 l9 : Option Value) (q : Nat) (st : List Value) (σ : dS), den mX7_runs 102 [l0, l1, l2, l3, l4, l5, l6, l7, l8, l9] (.ref q :: st) σ = (dget σ q 6 25).bind fun v => den mX7_runs 105 [l0, l1, l2, l3, l4, l5, l6, l7, l8, l9] (v :: st) σ) ∧
  (∀ (l0 l1 l2 l3 l4 l5 l6 l7 l8 l9 : Option Value) (x y : Int32) (st : List Value) (σ : dS), den mX7_runs 105 [l0, l1, l2, l3, l4, l5, l6, l7, l8, l9] (.int y :: .int x :: st) σ = den mX7_runs 106 [l0, l1, l2, l3, l4, l5, l6, l7, l8, l9] (.int (x + y) :: st) σ) ∧
  (∀ (l0 l1 l2 l3 l5 l6 l7 l8 l9 : Option Value) (x : Int32) (y : Int32) (st : List Value) (σ : dS), den mX7_runs 106 [l0, l1, l2, l3, some (.int y), l5, l6, l7, l8, l9] (.int x :: st) σ = den mX7_runs 108 [l0, l1, l2, l3, some (.int y), some (.int x), l6, l7, l8, l9] st σ) ∧
  (∀ (l0 l1 l2 l3 l4 l7 l8 l9 : Option Value) (x : Int32) (y : Int32) (st : List Value) (σ : dS), den mX7_runs 108 [l0, l1, l2, l3, l4, some (.int y), some (.int x), l7, l8, l9] st σ = den mX7_runs 111 [l0, l1, l2, l3, l4, some (.int y), some (.int (x + nI 1)), l7, l8, l9] st σ) ∧
  (∀ (l0 l1 l2 l3 l4 l5 l6 l7 l8 l9 : Option Value) (st : List Value) (σ : dS), den mX7_runs 111 [l0, l1, l2, l3, l4, l5, l6, l7, l8, l9] st σ = den mX7_runs 35 [l0, l1, l2, l3, l4, l5, l6, l7, l8, l9] st σ) ∧
  (∀ (l0 l1 l2 l4 l5 l6 l7 l8 l9 : Option Value) (x : Int32) (st : List Value) (σ : dS), den mX7_runs 114 [l0, l1, l2, some (.int x), l4, l5, l6, l7, l8, l9] st σ = den mX7_runs 115 [l0, l1, l2, some (.int x), l4, l5, l6, l7, l8, l9] (.int x :: st) σ) ∧
  (∀ (l0 l1 l2 l3 l4 l5 l6 l7 l8 l9 : Option Value) (x : Int32) (st : List Value) (σ : dS), den mX7_runs 115 [l0, l1, l2, l3, l4, l5, l6, l7, l8, l9] (.int x :: st) σ = if x = 0 then den mX7_runs 118 [l0, l1, l2, l3, l4, l5, l6, l7, l8, l9] st σ else den mX7_runs 123 [l0, l1, l2, l3, l4, l5, l6, l7, l8, l9] st σ) ∧
  (∀ (l0 l1 l2 l3 l5 l6 l7 l8 l9 : Option Value) (x : Int32) (st : List Value) (σ : dS), den mX7_runs 118 [l0, l1, l2, l3, some (.int x), l5, l6, l7, l8, l9] st σ = den mX7_runs 120 [l0, l1, l2, l3, some (.int x), l5, l6, l7, l8, l9] (.int x :: st) σ) ∧
  (∀ (l0 l1 l2 l3 l4 l5 l6 l7 l8 l9 : Option Value) (st : List Value) (σ : dS), den mX7_runs 120 [l0, l1, l2, l3, l4, l5, l6, l7, l8, l9] st σ = den mX7_runs 125 [l0, l1, l2, l3, l4, l5, l6, l7, l8, l9] st σ) ∧
  (∀ (l0 l1 l2 l3 l4 l6 l7 l8 l9 : Option Value) (x : Int32) (st : List Value) (σ : dS), den mX7_runs 123 [l0, l1, l2, l3, l4, some (.int x), l6, l7, l8, l9] st σ = den mX7_runs 125 [l0, l1, l2, l3, l4, some (.int x), l6, l7, l8, l9] (.int x :: st) σ) ∧
  (∀ (l0 l1 l2 l3 l4 l5 l6 l7 l8 l9 : Option Value) (v : Int32) (σ : dS), den mX7_runs 125 [l0, l1, l2, l3, l4, l5, l6, l7, l8, l9] [.int v] σ = some (some (.int v), σ)) :=
  ⟨fun l0 l1 l2 l3 l5 l6 l7 l8 l9 x st σ => dn_iload eX7_runs dX7_runs_77 rfl,
  fun l1 l2 l3 l4 l5 l6 l7 l8 l9 x st σ => dn_aload_n eX7_runs dX7_runs_79 rfl,
  fun l0 l1 l2 l3 l4 l5 l6 l7 l8 l9 q st σ => dn_getfield (f := (6, 26, 797)) eX7_runs dX7_runs_80 (by decide +kernel),
  fun l0 l1 l2 l3 l4 l5 l6 l7 l8 l9 st σ => dn_bipush eX7_runs dX7_runs_83 kc_bipush_m4,
  fun l0 l1 l2 l3 l4 l5 l6 l7 l8 l9 x y st σ => dn_icmp_ne eX7_runs dX7_runs_85 (by decide),
  fun l0 l1 l2 l3 l4 l5 l6 l7 l8 l9 st σ => dn_iconst eX7_runs dX7_runs_88 kc_iconst_1,
  fun l0 l1 l2 l3 l4 l5 l6 l7 l8 l9 st σ => dn_goto eX7_runs dX7_runs_89 (by decide),
  fun l0 l1 l2 l3 l4 l5 l6 l7 l8 l9 st σ => dn_iconst eX7_runs dX7_runs_92 kc_iconst_0,
  fun l0 l1 l2 l3 l4 l5 l6 l7 l8 l9 a0 b0 σ => dn_callS (e := (1, 103, 951)) (as := [.int a0]) (rest := [.int b0]) eX7_runs dX7_runs_93 (by decide +kernel) (Or.inl rfl) (by decide +kernel) rfl (dcat_le rfl) (dlen_le rfl) rfl,
  fun l0 l1 l2 l3 l4 l5 l6 l7 l8 l9 x y st σ => dn_iadd eX7_runs dX7_runs_96,
  fun l0 l1 l2 l4 l5 l6 l7 l8 l9 x y st σ => dn_istore eX7_runs dX7_runs_97 rfl,
  fun l0 l1 l2 l3 l4 l6 l7 l8 l9 x st σ => dn_iload eX7_runs dX7_runs_99 rfl,
  fun l1 l2 l3 l4 l5 l6 l7 l8 l9 x st σ => dn_aload_n eX7_runs dX7_runs_101 rfl,
  fun l0 l1 l2 l3 l4 l5 l6 l7 l8 l9 q st σ => dn_getfield (f := (6, 25, 796)) eX7_runs dX7_runs_102 (by decide +kernel),
  fun l0 l1 l2 l3 l4 l5 l6 l7 l8 l9 x y st σ => dn_iadd eX7_runs dX7_runs_105,
  fun l0 l1 l2 l3 l5 l6 l7 l8 l9 x y st σ => dn_istore eX7_runs dX7_runs_106 rfl,
  fun l0 l1 l2 l3 l4 l7 l8 l9 x y st σ => dn_iinc (v := nI 1) eX7_runs dX7_runs_108 rfl kc_iconst_1 rfl,
  fun l0 l1 l2 l3 l4 l5 l6 l7 l8 l9 st σ => dn_goto eX7_runs dX7_runs_111 (by decide),
  fun l0 l1 l2 l4 l5 l6 l7 l8 l9 x st σ => dn_iload_n eX7_runs dX7_runs_114 rfl,
  fun l0 l1 l2 l3 l4 l5 l6 l7 l8 l9 x st σ => dn_if_ne eX7_runs dX7_runs_115 (by decide),
  fun l0 l1 l2 l3 l5 l6 l7 l8 l9 x st σ => dn_iload eX7_runs dX7_runs_118 rfl,
  fun l0 l1 l2 l3 l4 l5 l6 l7 l8 l9 st σ => dn_goto eX7_runs dX7_runs_120 (by decide),
  fun l0 l1 l2 l3 l4 l6 l7 l8 l9 x st σ => dn_iload eX7_runs dX7_runs_123 rfl,
  fun l0 l1 l2 l3 l4 l5 l6 l7 l8 l9 v σ => dn_ireturn eX7_runs dX7_runs_125 rfl⟩
theorem CX7_wish (a0 : Nat) (a1 : Int32) (a2 : Int32) (σ : dS) : dcall mX7_wish [.ref a0, .int a1, .int a2] σ = den mX7_wish 0 [some (.ref a0), some (.int a1), some (.int a2)] [] σ := dcall_den (by decide) rfl
theorem rX7_wish_2 (l0 l1 l2 : Option Value) (a0 : Int32) (q : Nat) (σ : dS) : den mX7_wish 2 [l0, l1, l2] [.int a0, .ref q] σ = if disO σ q 6 = true then ((dcall mX7_isIf [.ref q, .int a0] σ).bind fun r => den mX7_wish 5 [l0, l1, l2] (r.1.toList ++ []) r.2) else none := by
  by_cases h : disO σ q 6 = true
  · rw [if_pos h]; exact dn_callV (e := (0, 125, 1090)) (as := [.int a0]) (rest := []) eX7_wish dX7_wish_2 (by decide +kernel) rfl (by decide +kernel) rfl (dcat_le rfl) (dlen_le rfl) rfl h
  · rw [if_neg h]; exact den_noV (e := (0, 125, 1090)) (as := [.int a0]) (rest := []) eX7_wish dX7_wish_2 (by decide +kernel) rfl rfl rfl h
theorem rX7_wish_18 (l0 l1 l2 : Option Value) (q : Nat) (σ : dS) : den mX7_wish 18 [l0, l1, l2] [.ref q] σ = if disO σ q 6 = true then ((dcall mX7_findMeans [.ref q] σ).bind fun r => den mX7_wish 21 [l0, l1, l2] (r.1.toList ++ []) r.2) else none := by
  by_cases h : disO σ q 6 = true
  · rw [if_pos h]; exact dn_callV (e := (0, 136, 974)) (as := []) (rest := []) eX7_wish dX7_wish_18 (by decide +kernel) rfl (by decide +kernel) rfl (dcat_le rfl) (dlen_le rfl) rfl h
  · rw [if_neg h]; exact den_noV (e := (0, 136, 974)) (as := []) (rest := []) eX7_wish dX7_wish_18 (by decide +kernel) rfl rfl rfl h
set_option maxRecDepth 20000 in
theorem SX7_wish : (∀ (l1 l2 : Option Value) (x : Nat) (st : List Value) (σ : dS), den mX7_wish 0 [some (.ref x), l1, l2] st σ = den mX7_wish 1 [some (.ref x), l1, l2] (.ref x :: st) σ) ∧
  (∀ (l0 l2 : Option Value) (x : Int32) (st : List Value) (σ : dS), den mX7_wish 1 [l0, some (.int x), l2] st σ = den mX7_wish 2 [l0, some (.int x), l2] (.int x :: st) σ) ∧
  (∀ (l0 l1 l2 : Option Value) (a0 : Int32) (q : Nat) (σ : dS), den mX7_wish 2 [l0, l1, l2] [.int a0, .ref q] σ = if disO σ q 6 = true then ((dcall mX7_isIf [.ref q, .int a0] σ).bind fun r => den mX7_wish 5 [l0, l1, l2] (r.1.toList ++ []) r.2) else none) ∧
  (∀ (l0 l1 l2 : Option Value) (x : Int32) (st : List Value) (σ : dS), den mX7_wish 5 [l0, l1, l2] (.int x :: st) σ = if x = 0 then den mX7_wish 15 [l0, l1, l2] st σ else den mX7_wish 8 [l0, l1, l2] st σ) ∧
  (∀ (l0 l1 : Option Value) (x : Int32) (st : List Value) (σ : dS), den mX7_wish 8 [l0, l1, some (.int x)] st σ = den mX7_wish 9 [l0, l1, some (.int x)] (.int x :: st) σ) ∧
  (∀ (l0 l1 l2 : Option Value) (a0 : Int32) (σ : dS), den mX7_wish 9 [l0, l1, l2] [.int a0] σ = (dcall mX7_isPart [.int a0] σ).bind fun r => den mX7_wish 12 [l0, l1, l2] (r.1.toList ++ []) r.2) ∧
  (∀ (l0 l1 l2 : Option Value) (x : Int32) (st : List Value) (σ : dS), den mX7_wish 12 [l0, l1, l2] (.int x :: st) σ = if x = 0 then den mX7_wish 15 [l0, l1, l2] st σ else den mX7_wish 17 [l0, l1, l2] st σ) ∧
  (∀ (l0 l1 l2 : Option Value) (st : List Value) (σ : dS), den mX7_wish 15 [l0, l1, l2] st σ = den mX7_wish 16 [l0, l1, l2] (.int ((-1)) :: st) σ) ∧
  (∀ (l0 l1 l2 : Option Value) (v : Int32) (σ : dS), den mX7_wish 16 [l0, l1, l2] [.int v] σ = some (some (.int v), σ)) ∧
  (∀ (l1 l2 : Option Value) (x : Nat) (st : List Value) (σ : dS), den mX7_wish 17 [some (.ref x), l1, l2] st σ = den mX7_wish 18 [some (.ref x), l1, l2] (.ref x :: st) σ) ∧
  (∀ (l0 l1 l2 : Option Value) (q : Nat) (σ : dS), den mX7_wish 18 [l0, l1, l2] [.ref q] σ = if disO σ q 6 = true then ((dcall mX7_findMeans [.ref q] σ).bind fun r => den mX7_wish 21 [l0, l1, l2] (r.1.toList ++ []) r.2) else none) ∧
  (∀ (l0 l1 : Option Value) (x : Int32) (st : List Value) (σ : dS), den mX7_wish 21 [l0, l1, some (.int x)] st σ = den mX7_wish 22 [l0, l1, some (.int x)] (.int x :: st) σ) ∧
  (∀ (l0 l1 l2 : Option Value) (x : Int32) (st : List Value) (σ : dS), den mX7_wish 22 [l0, l1, l2] (.int x :: st) σ = if x = 0 then den mX7_wish 25 [l0, l1, l2] st σ else den mX7_wish 37 [l0, l1, l2] st σ) ∧
  (∀ (l1 l2 : Option Value) (x : Nat) (st : List Value) (σ : dS), den mX7_wish 25 [some (.ref x), l1, l2] st σ = den mX7_wish 26 [some (.ref x), l1, l2] (.ref x :: st) σ) ∧
  (∀ (l0 l1 l2 : Option Value) (q : Nat) (st : List Value) (σ : dS), den mX7_wish 26 [l0, l1, l2] (.ref q :: st) σ = (dget σ q 6 0).bind fun v => den mX7_wish 29 [l0, l1, l2] (v :: st) σ) ∧
  (∀ (l0 l1 l2 : Option Value) (st : List Value) (σ : dS), den mX7_wish 29 [l0, l1, l2] st σ = den mX7_wish 31 [l0, l1, l2] (.int (nI 122) :: st) σ) ∧
  (∀ (l0 l2 : Option Value) (x : Int32) (st : List Value) (σ : dS), den mX7_wish 31 [l0, some (.int x), l2] st σ = den mX7_wish 32 [l0, some (.int x), l2] (.int x :: st) σ) ∧
  (∀ (l0 l1 l2 : Option Value) (x y : Int32) (st : List Value) (σ : dS), den mX7_wish 32 [l0, l1, l2] (.int y :: .int x :: st) σ = den mX7_wish 33 [l0, l1, l2] (.int (x + y) :: st) σ) ∧
  (∀ (l0 l1 l2 : Option Value) (q : Nat) (i : Int32) (st : List Value) (σ : dS), den mX7_wish 33 [l0, l1, l2] (.int i :: .ref q :: st) σ = if q ≤ dN then (dald σ q 0 i).bind (fun v => den mX7_wish 34 [l0, l1, l2] (.int v :: st) σ) else none) ∧
  (∀ (l0 l1 l2 : Option Value) (st : List Value) (σ : dS), den mX7_wish 34 [l0, l1, l2] st σ = den mX7_wish 46 [l0, l1, l2] st σ) ∧
  (∀ (l1 l2 : Option Value) (x : Nat) (st : List Value) (σ : dS), den mX7_wish 37 [some (.ref x), l1, l2] st σ = den mX7_wish 38 [some (.ref x), l1, l2] (.ref x :: st) σ) ∧
  (∀ (l0 l1 l2 : Option Value) (q : Nat) (st : List Value) (σ : dS), den mX7_wish 38 [l0, l1, l2] (.ref q :: st) σ = (dget σ q 6 17).bind fun v => den mX7_wish 41 [l0, l1, l2] (v :: st) σ) ∧
  (∀ (l0 l2 : Option Value) (x : Int32) (st : List Value) (σ : dS), den mX7_wish 41 [l0, some (.int x), l2] st σ = den mX7_wish 42 [l0, some (.int x), l2] (.int x :: st) σ) ∧
  (∀ (l0 l1 l2 : Option Value) (q : Nat) (i : Int32) (st : List Value) (σ : dS), den mX7_wish 42 [l0, l1, l2] (.int i :: .ref q :: st) σ = (dbld σ q i).bind fun v => den mX7_wish 43 [l0, l1, l2] (.int v :: st) σ) ∧
  (∀ (l0 l1 l2 : Option Value) (a0 : Int32) (σ : dS), den mX7_wish 43 [l0, l1, l2] [.int a0] σ = (dcall mX7_flag [.int a0] σ).bind fun r => den mX7_wish 46 [l0, l1, l2] (r.1.toList ++ []) r.2) ∧
  (∀ (l0 l1 l2 : Option Value) (v : Int32) (σ : dS), den mX7_wish 46 [l0, l1, l2] [.int v] σ = some (some (.int v), σ)) :=
  ⟨fun l1 l2 x st σ => dn_aload_n eX7_wish dX7_wish_0 rfl,
  fun l0 l2 x st σ => dn_iload_n eX7_wish dX7_wish_1 rfl,
  fun l0 l1 l2 a0 q σ => rX7_wish_2 l0 l1 l2 a0 q σ,
  fun l0 l1 l2 x st σ => dn_if_eq eX7_wish dX7_wish_5 (by decide),
  fun l0 l1 x st σ => dn_iload_n eX7_wish dX7_wish_8 rfl,
  fun l0 l1 l2 a0 σ => dn_callS (e := (1, 127, 1078)) (as := [.int a0]) (rest := []) eX7_wish dX7_wish_9 (by decide +kernel) (Or.inl rfl) (by decide +kernel) rfl (dcat_le rfl) (dlen_le rfl) rfl,
  fun l0 l1 l2 x st σ => dn_if_ne eX7_wish dX7_wish_12 (by decide),
  fun l0 l1 l2 st σ => dn_iconst eX7_wish dX7_wish_15 kc_iconst_m1,
  fun l0 l1 l2 v σ => dn_ireturn eX7_wish dX7_wish_16 rfl,
  fun l1 l2 x st σ => dn_aload_n eX7_wish dX7_wish_17 rfl,
  fun l0 l1 l2 q σ => rX7_wish_18 l0 l1 l2 q σ,
  fun l0 l1 x st σ => dn_iload_n eX7_wish dX7_wish_21 rfl,
  fun l0 l1 l2 x st σ => dn_if_ne eX7_wish dX7_wish_22 (by decide),
  fun l1 l2 x st σ => dn_aload_n eX7_wish dX7_wish_25 rfl,
  fun l0 l1 l2 q st σ => dn_getfield (f := (6, 0, 771)) eX7_wish dX7_wish_26 (by decide +kernel),
  fun l0 l1 l2 st σ => dn_bipush eX7_wish dX7_wish_29 kc_bipush_122,
  fun l0 l2 x st σ => dn_iload_n eX7_wish dX7_wish_31 rfl,
  fun l0 l1 l2 x y st σ => dn_iadd eX7_wish dX7_wish_32,
  fun l0 l1 l2 q i st σ => dn_iaload eX7_wish dX7_wish_33,
  fun l0 l1 l2 st σ => dn_goto eX7_wish dX7_wish_34 (by decide),
  fun l1 l2 x st σ => dn_aload_n eX7_wish dX7_wish_37 rfl,
  fun l0 l1 l2 q st σ => dn_getfield (f := (6, 17, 788)) eX7_wish dX7_wish_38 (by decide +kernel),
  fun l0 l2 x st σ => dn_iload_n eX7_wish dX7_wish_41 rfl,
  fun l0 l1 l2 q i st σ => dn_baload eX7_wish dX7_wish_42,
  fun l0 l1 l2 a0 σ => dn_callS (e := (1, 103, 951)) (as := [.int a0]) (rest := []) eX7_wish dX7_wish_43 (by decide +kernel) (Or.inl rfl) (by decide +kernel) rfl (dcat_le rfl) (dlen_le rfl) rfl,
  fun l0 l1 l2 v σ => dn_ireturn eX7_wish dX7_wish_46 rfl⟩
theorem CX7_becomes (a0 : Nat) (a1 : Int32) (a2 : Int32) (σ : dS) : dcall mX7_becomes [.ref a0, .int a1, .int a2] σ = den mX7_becomes 0 [some (.ref a0), some (.int a1), some (.int a2), none] [] σ := dcall_den (by decide) rfl
set_option maxRecDepth 20000 in
theorem SX7_becomes : (∀ (l1 l2 l3 : Option Value) (x : Nat) (st : List Value) (σ : dS), den mX7_becomes 0 [some (.ref x), l1, l2, l3] st σ = den mX7_becomes 1 [some (.ref x), l1, l2, l3] (.ref x :: st) σ) ∧
  (∀ (l0 l1 l2 l3 : Option Value) (q : Nat) (st : List Value) (σ : dS), den mX7_becomes 1 [l0, l1, l2, l3] (.ref q :: st) σ = (dget σ q 6 0).bind fun v => den mX7_becomes 4 [l0, l1, l2, l3] (v :: st) σ) ∧
  (∀ (l0 l2 l3 : Option Value) (x : Int32) (st : List Value) (σ : dS), den mX7_becomes 4 [l0, some (.int x), l2, l3] st σ = den mX7_becomes 5 [l0, some (.int x), l2, l3] (.int x :: st) σ) ∧
  (∀ (l0 l1 l2 l3 : Option Value) (q : Nat) (i : Int32) (st : List Value) (σ : dS), den mX7_becomes 5 [l0, l1, l2, l3] (.int i :: .ref q :: st) σ = if q ≤ dN then (dald σ q 0 i).bind (fun v => den mX7_becomes 6 [l0, l1, l2, l3] (.int v :: st) σ) else none) ∧
  (∀ (l0 l1 l3 : Option Value) (x : Int32) (y : Int32) (st : List Value) (σ : dS), den mX7_becomes 6 [l0, l1, some (.int y), l3] (.int x :: st) σ = den mX7_becomes 7 [l0, l1, some (.int y), some (.int x)] st σ) ∧
  (∀ (l1 l2 l3 : Option Value) (x : Nat) (st : List Value) (σ : dS), den mX7_becomes 7 [some (.ref x), l1, l2, l3] st σ = den mX7_becomes 8 [some (.ref x), l1, l2, l3] (.ref x :: st) σ) ∧
  (∀ (l0 l1 l2 l3 : Option Value) (q : Nat) (st : List Value) (σ : dS), den mX7_becomes 8 [l0, l1, l2, l3] (.ref q :: st) σ = (dget σ q 6 0).bind fun v => den mX7_becomes 11 [l0, l1, l2, l3] (v :: st) σ) ∧
  (∀ (l0 l2 l3 : Option Value) (x : Int32) (st : List Value) (σ : dS), den mX7_becomes 11 [l0, some (.int x), l2, l3] st σ = den mX7_becomes 12 [l0, some (.int x), l2, l3] (.int x :: st) σ) ∧
  (∀ (l0 l1 l3 : Option Value) (x : Int32) (st : List Value) (σ : dS), den mX7_becomes 12 [l0, l1, some (.int x), l3] st σ = den mX7_becomes 13 [l0, l1, some (.int x), l3] (.int x :: st) σ) ∧
  (∀ (l0 l1 l2 l3 : Option Value) (q : Nat) (i x : Int32) (st : List Value) (σ : dS), den mX7_becomes 13 [l0, l1, l2, l3] (.int x :: .int i :: .ref q :: st) σ = (dast σ q 0 i x).bind fun τ => den mX7_becomes 14 [l0, l1, l2, l3] st τ) ∧
  (∀ (l0 l1 l2 : Option Value) (x : Int32) (st : List Value) (σ : dS), den mX7_becomes 14 [l0, l1, l2, some (.int x)] st σ = den mX7_becomes 15 [l0, l1, l2, some (.int x)] (.int x :: st) σ) ∧
  (∀ (l0 l1 l2 l3 : Option Value) (v : Int32) (σ : dS), den mX7_becomes 15 [l0, l1, l2, l3] [.int v] σ = some (some (.int v), σ)) :=
  ⟨fun l1 l2 l3 x st σ => dn_aload_n eX7_becomes dX7_becomes_0 rfl,
  fun l0 l1 l2 l3 q st σ => dn_getfield (f := (6, 0, 771)) eX7_becomes dX7_becomes_1 (by decide +kernel),
  fun l0 l2 l3 x st σ => dn_iload_n eX7_becomes dX7_becomes_4 rfl,
  fun l0 l1 l2 l3 q i st σ => dn_iaload eX7_becomes dX7_becomes_5,
  fun l0 l1 l3 x y st σ => dn_istore_n eX7_becomes dX7_becomes_6 rfl,
  fun l1 l2 l3 x st σ => dn_aload_n eX7_becomes dX7_becomes_7 rfl,
  fun l0 l1 l2 l3 q st σ => dn_getfield (f := (6, 0, 771)) eX7_becomes dX7_becomes_8 (by decide +kernel),
  fun l0 l2 l3 x st σ => dn_iload_n eX7_becomes dX7_becomes_11 rfl,
  fun l0 l1 l3 x st σ => dn_iload_n eX7_becomes dX7_becomes_12 rfl,
  fun l0 l1 l2 l3 q i x st σ => dn_iastore eX7_becomes dX7_becomes_13,
  fun l0 l1 l2 x st σ => dn_iload_n eX7_becomes dX7_becomes_14 rfl,
  fun l0 l1 l2 l3 v σ => dn_ireturn eX7_becomes dX7_becomes_15 rfl⟩

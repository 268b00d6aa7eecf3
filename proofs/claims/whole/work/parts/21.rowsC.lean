theorem CX5_refuse (a0 : Nat) (a1 : Int32) (σ : dS) : dcall mX5_refuse [.ref a0, .int a1] σ = den mX5_refuse 0 [some (.ref a0), some (.int a1)] [] σ := dcall_den (by decide) rfl
set_option maxRecDepth 20000 in
theorem SX5_refuse : (∀ (l1 : Option Value) (x : Nat) (st : List Value) (σ : dS), den mX5_refuse 0 [some (.ref x), l1] st σ = den mX5_refuse 1 [some (.ref x), l1] (.ref x :: st) σ) ∧
  (∀ (l0 : Option Value) (x : Int32) (st : List Value) (σ : dS), den mX5_refuse 1 [l0, some (.int x)] st σ = den mX5_refuse 2 [l0, some (.int x)] (.int x :: st) σ) ∧
  (∀ (l0 l1 : Option Value) (x : Int32) (q : Nat) (st : List Value) (σ : dS), den mX5_refuse 2 [l0, l1] (.int x :: .ref q :: st) σ = (dput σ q 4 8 (.int x)).bind fun τ => den mX5_refuse 5 [l0, l1] st τ) ∧
  (∀ (l1 : Option Value) (x : Nat) (st : List Value) (σ : dS), den mX5_refuse 5 [some (.ref x), l1] st σ = den mX5_refuse 6 [some (.ref x), l1] (.ref x :: st) σ) ∧
  (∀ (l1 : Option Value) (x : Nat) (st : List Value) (σ : dS), den mX5_refuse 6 [some (.ref x), l1] st σ = den mX5_refuse 7 [some (.ref x), l1] (.ref x :: st) σ) ∧
  (∀ (l0 l1 : Option Value) (q : Nat) (st : List Value) (σ : dS), den mX5_refuse 7 [l0, l1] (.ref q :: st) σ = (dget σ q 4 6).bind fun v => den mX5_refuse 10 [l0, l1] (v :: st) σ) ∧
  (∀ (l0 l1 : Option Value) (x : Int32) (q : Nat) (st : List Value) (σ : dS), den mX5_refuse 10 [l0, l1] (.int x :: .ref q :: st) σ = (dput σ q 4 9 (.int x)).bind fun τ => den mX5_refuse 13 [l0, l1] st τ) ∧
  (∀ (l0 l1 : Option Value) (st : List Value) (σ : dS), den mX5_refuse 13 [l0, l1] st σ = den mX5_refuse 14 [l0, l1] (.int (nI 0) :: st) σ) ∧
  (∀ (l0 l1 : Option Value) (v : Int32) (σ : dS), den mX5_refuse 14 [l0, l1] [.int v] σ = if v = 0 ∨ v = 1 then some (some (.int v), σ) else none) :=
  ⟨fun l1 x st σ => dn_aload_n eX5_refuse dX5_refuse_0 rfl,
  fun l0 x st σ => dn_iload_n eX5_refuse dX5_refuse_1 rfl,
  fun l0 l1 x q st σ => dn_putfield (f := (4, 8, 155)) (ty := .int) eX5_refuse dX5_refuse_2 (by decide +kernel) (by decide +kernel) rfl,
  fun l1 x st σ => dn_aload_n eX5_refuse dX5_refuse_5 rfl,
  fun l1 x st σ => dn_aload_n eX5_refuse dX5_refuse_6 rfl,
  fun l0 l1 q st σ => dn_getfield (f := (4, 6, 153)) eX5_refuse dX5_refuse_7 (by decide +kernel),
  fun l0 l1 x q st σ => dn_putfield (f := (4, 9, 158)) (ty := .int) eX5_refuse dX5_refuse_10 (by decide +kernel) (by decide +kernel) rfl,
  fun l0 l1 st σ => dn_iconst eX5_refuse dX5_refuse_13 kc_iconst_0,
  fun l0 l1 v σ => dn_zreturn eX5_refuse dX5_refuse_14 rfl⟩
theorem CX5_endOfSpan (a0 : Nat) (a1 : Int32) (a2 : Int32) (a3 : Int32) (σ : dS) : dcall mX5_endOfSpan [.ref a0, .int a1, .int a2, .int a3] σ = den mX5_endOfSpan 0 [some (.ref a0), some (.int a1), some (.int a2), some (.int a3), none] [] σ := dcall_den (by decide) rfl
theorem hX5_endOfSpan_3 (l0 l1 l2 l3 : Option Value) (x : Int32) (st : List Value) (σ : dS) : den mX5_endOfSpan 3 [l0, l1, l2, l3, some (.int x)] st σ = den mX5_endOfSpan 5 [l0, l1, l2, l3, some (.int x)] (.int x :: st) σ := dn_iload eX5_endOfSpan dX5_endOfSpan_3 rfl
set_option maxRecDepth 20000 in
theorem SX5_endOfSpan : (∀ (l0 l2 l3 l4 : Option Value) (x : Int32) (st : List Value) (σ : dS), den mX5_endOfSpan 0 [l0, some (.int x), l2, l3, l4] st σ = den mX5_endOfSpan 1 [l0, some (.int x), l2, l3, l4] (.int x :: st) σ) ∧
  (∀ (l0 l1 l2 l4 : Option Value) (x : Int32) (y : Int32) (st : List Value) (σ : dS), den mX5_endOfSpan 1 [l0, l1, l2, some (.int y), l4] (.int x :: st) σ = den mX5_endOfSpan 3 [l0, l1, l2, some (.int y), some (.int x)] st σ) ∧
  (∀ (l1 l2 l3 l4 : Option Value) (x : Nat) (st : List Value) (σ : dS), den mX5_endOfSpan 5 [some (.ref x), l1, l2, l3, l4] st σ = den mX5_endOfSpan 6 [some (.ref x), l1, l2, l3, l4] (.ref x :: st) σ) ∧
  (∀ (l0 l1 l2 l3 l4 : Option Value) (q : Nat) (st : List Value) (σ : dS), den mX5_endOfSpan 6 [l0, l1, l2, l3, l4] (.ref q :: st) σ = (dget σ q 4 3).bind fun v => den mX5_endOfSpan 9 [l0, l1, l2, l3, l4] (v :: st) σ) ∧
  (∀ (l0 l1 l2 l3 l4 : Option Value) (x y : Int32) (st : List Value) (σ : dS), den mX5_endOfSpan 9 [l0, l1, l2, l3, l4] (.int y :: .int x :: st) σ = if x < y then den mX5_endOfSpan 12 [l0, l1, l2, l3, l4] st σ else den mX5_endOfSpan 40 [l0, l1, l2, l3, l4] st σ) ∧
  (∀ (l1 l2 l3 l4 : Option Value) (x : Nat) (st : List Value) (σ : dS), den mX5_endOfSpan 12 [some (.ref x), l1, l2, l3, l4] st σ = den mX5_endOfSpan 13 [some (.ref x), l1, l2, l3, l4] (.ref x :: st) σ) ∧
  (∀ (l0 l1 l2 l3 l4 : Option Value) (q : Nat) (st : List Value) (σ : dS), den mX5_endOfSpan 13 [l0, l1, l2, l3, l4] (.ref q :: st) σ = (dget σ q 4 1).bind fun v => den mX5_endOfSpan 16 [l0, l1, l2, l3, l4] (v :: st) σ) ∧
  (∀ (l0 l1 l2 l3 : Option Value) (x : Int32) (st : List Value) (σ : dS), den mX5_endOfSpan 16 [l0, l1, l2, l3, some (.int x)] st σ = den mX5_endOfSpan 18 [l0, l1, l2, l3, some (.int x)] (.int x :: st) σ) ∧
  (∀ (l0 l1 l2 l3 l4 : Option Value) (q : Nat) (i : Int32) (st : List Value) (σ : dS), den mX5_endOfSpan 18 [l0, l1, l2, l3, l4] (.int i :: .ref q :: st) σ = (dbld σ q i).bind fun v => den mX5_endOfSpan 19 [l0, l1, l2, l3, l4] (.int v :: st) σ) ∧
  (∀ (l0 l1 l3 l4 : Option Value) (x : Int32) (st : List Value) (σ : dS), den mX5_endOfSpan 19 [l0, l1, some (.int x), l3, l4] st σ = den mX5_endOfSpan 20 [l0, l1, some (.int x), l3, l4] (.int x :: st) σ) ∧
  (∀ (l0 l1 l2 l3 l4 : Option Value) (x y : Int32) (st : List Value) (σ : dS), den mX5_endOfSpan 20 [l0, l1, l2, l3, l4] (.int y :: .int x :: st) σ = if x < y then den mX5_endOfSpan 40 [l0, l1, l2, l3, l4] st σ else den mX5_endOfSpan 23 [l0, l1, l2, l3, l4] st σ) ∧
  (∀ (l1 l2 l3 l4 : Option Value) (x : Nat) (st : List Value) (σ : dS), den mX5_endOfSpan 23 [some (.ref x), l1, l2, l3, l4] st σ = den mX5_endOfSpan 24 [some (.ref x), l1, l2, l3, l4] (.ref x :: st) σ) ∧
  (∀ (l0 l1 l2 l3 l4 : Option Value) (q : Nat) (st : List Value) (σ : dS), den mX5_endOfSpan 24 [l0, l1, l2, l3, l4] (.ref q :: st) σ = (dget σ q 4 1).bind fun v => den mX5_endOfSpan 27 [l0, l1, l2, l3, l4] (v :: st) σ) ∧
  (∀ (l0 l1 l2 l3 : Option Value) (x : Int32) (st : List Value) (σ : dS), den mX5_endOfSpan 27 [l0, l1, l2, l3, some (.int x)] st σ = den mX5_endOfSpan 29 [l0, l1, l2, l3, some (.int x)] (.int x :: st) σ) ∧
  (∀ (l0 l1 l2 l3 l4 : Option Value) (q : Nat) (i : Int32) (st : List Value) (σ : dS), den mX5_endOfSpan 29 [l0, l1, l2, l3, l4] (.int i :: .ref q :: st) σ = (dbld σ q i).bind fun v => den mX5_endOfSpan 30 [l0, l1, l2, l3, l4] (.int v :: st) σ) ∧
  (∀ (l0 l1 l2 l4 : Option Value) (x : Int32) (st : List Value) (σ : dS), den mX5_endOfSpan 30 [l0, l1, l2, some (.int x), l4] st σ = den mX5_endOfSpan 31 [l0, l1, l2, some (.int x), l4] (.int x :: st) σ) ∧
  (∀ (l0 l1 l2 l3 l4 : Option Value) (x y : Int32) (st : List Value) (σ : dS), den mX5_endOfSpan 31 [l0, l1, l2, l3, l4] (.int y :: .int x :: st) σ = if y < x then den mX5_endOfSpan 40 [l0, l1, l2, l3, l4] st σ else den mX5_endOfSpan 34 [l0, l1, l2, l3, l4] st σ) ∧
  (∀ (l0 l1 l2 : Option Value) (x : Int32) (y : Int32) (st : List Value) (σ : dS), den mX5_endOfSpan 34 [l0, l1, l2, some (.int y), some (.int x)] st σ = den mX5_endOfSpan 37 [l0, l1, l2, some (.int y), some (.int (x + nI 1))] st σ) ∧
  (∀ (l0 l1 l2 l3 l4 : Option Value) (st : List Value) (σ : dS), den mX5_endOfSpan 37 [l0, l1, l2, l3, l4] st σ = den mX5_endOfSpan 3 [l0, l1, l2, l3, l4] st σ) ∧
  (∀ (l0 l1 l2 l3 : Option Value) (x : Int32) (st : List Value) (σ : dS), den mX5_endOfSpan 40 [l0, l1, l2, l3, some (.int x)] st σ = den mX5_endOfSpan 42 [l0, l1, l2, l3, some (.int x)] (.int x :: st) σ) ∧
  (∀ (l0 l1 l2 l3 l4 : Option Value) (v : Int32) (σ : dS), den mX5_endOfSpan 42 [l0, l1, l2, l3, l4] [.int v] σ = some (some (.int v), σ)) :=
  ⟨fun l0 l2 l3 l4 x st σ => dn_iload_n eX5_endOfSpan dX5_endOfSpan_0 rfl,
  fun l0 l1 l2 l4 x y st σ => dn_istore eX5_endOfSpan dX5_endOfSpan_1 rfl,
  fun l1 l2 l3 l4 x st σ => dn_aload_n eX5_endOfSpan dX5_endOfSpan_5 rfl,
  fun l0 l1 l2 l3 l4 q st σ => dn_getfield (f := (4, 3, 150)) eX5_endOfSpan dX5_endOfSpan_6 (by decide +kernel),
  fun l0 l1 l2 l3 l4 x y st σ => dn_icmp_ge eX5_endOfSpan dX5_endOfSpan_9 (by decide),
  fun l1 l2 l3 l4 x st σ => dn_aload_n eX5_endOfSpan dX5_endOfSpan_12 rfl,
  fun l0 l1 l2 l3 l4 q st σ => dn_getfield (f := (4, 1, 146)) eX5_endOfSpan dX5_endOfSpan_13 (by decide +kernel),
  fun l0 l1 l2 l3 x st σ => dn_iload eX5_endOfSpan dX5_endOfSpan_16 rfl,
  fun l0 l1 l2 l3 l4 q i st σ => dn_baload eX5_endOfSpan dX5_endOfSpan_18,
  fun l0 l1 l3 l4 x st σ => dn_iload_n eX5_endOfSpan dX5_endOfSpan_19 rfl,
  fun l0 l1 l2 l3 l4 x y st σ => dn_icmp_lt eX5_endOfSpan dX5_endOfSpan_20 (by decide),
  fun l1 l2 l3 l4 x st σ => dn_aload_n eX5_endOfSpan dX5_endOfSpan_23 rfl,
  fun l0 l1 l2 l3 l4 q st σ => dn_getfield (f := (4, 1, 146)) eX5_endOfSpan dX5_endOfSpan_24 (by decide +kernel),
  fun l0 l1 l2 l3 x st σ => dn_iload eX5_endOfSpan dX5_endOfSpan_27 rfl,
  fun l0 l1 l2 l3 l4 q i st σ => dn_baload eX5_endOfSpan dX5_endOfSpan_29,
  fun l0 l1 l2 l4 x st σ => dn_iload_n eX5_endOfSpan dX5_endOfSpan_30 rfl,
  fun l0 l1 l2 l3 l4 x y st σ => dn_icmp_gt eX5_endOfSpan dX5_endOfSpan_31 (by decide),
  fun l0 l1 l2 x y st σ => dn_iinc (v := nI 1) eX5_endOfSpan dX5_endOfSpan_34 rfl kc_iconst_1 rfl,
  fun l0 l1 l2 l3 l4 st σ => dn_goto eX5_endOfSpan dX5_endOfSpan_37 (by decide),
  fun l0 l1 l2 l3 x st σ => dn_iload eX5_endOfSpan dX5_endOfSpan_40 rfl,
  fun l0 l1 l2 l3 l4 v σ => dn_ireturn eX5_endOfSpan dX5_endOfSpan_42 rfl⟩
theorem CX5_readToken (a0 : Nat) (σ : dS) : dcall mX5_readToken [.ref a0] σ = den mX5_readToken 0 [some (.ref a0), none] [] σ := dcall_den (by decide) rfl
theorem rX5_readToken_10 (l0 l1 : Option Value) (a0 : Int32) (a1 : Int32) (a2 : Int32) (b0 : Nat) (q : Nat) (σ : dS) : den mX5_readToken 10 [l0, l1] [.int a2, .int a1, .int a0, .ref q, .ref b0] σ = if disO σ q 4 = true then ((dcall mX5_endOfSpan [.ref q, .int a0, .int a1, .int a2] σ).bind fun r => den mX5_readToken 13 [l0, l1] (r.1.toList ++ [.ref b0]) r.2) else none := by
  by_cases h : disO σ q 4 = true
  · rw [if_pos h]; exact dn_callV (e := (0, 57, 314)) (as := [.int a0, .int a1, .int a2]) (rest := [.ref b0]) eX5_readToken dX5_readToken_10 (by decide +kernel) rfl (by decide +kernel) rfl (dcat_le rfl) (dlen_le rfl) rfl h
  · rw [if_neg h]; exact den_noV (e := (0, 57, 314)) (as := [.int a0, .int a1, .int a2]) (rest := [.ref b0]) eX5_readToken dX5_readToken_10 (by decide +kernel) rfl rfl rfl h
theorem rX5_readToken_79 (l0 l1 : Option Value) (a0 : Int32) (a1 : Int32) (a2 : Int32) (b0 : Nat) (q : Nat) (σ : dS) : den mX5_readToken 79 [l0, l1] [.int a2, .int a1, .int a0, .ref q, .ref b0] σ = if disO σ q 4 = true then ((dcall mX5_endOfSpan [.ref q, .int a0, .int a1, .int a2] σ).bind fun r => den mX5_readToken 82 [l0, l1] (r.1.toList ++ [.ref b0]) r.2) else none := by
  by_cases h : disO σ q 4 = true
  · rw [if_pos h]; exact dn_callV (e := (0, 57, 314)) (as := [.int a0, .int a1, .int a2]) (rest := [.ref b0]) eX5_readToken dX5_readToken_79 (by decide +kernel) rfl (by decide +kernel) rfl (dcat_le rfl) (dlen_le rfl) rfl h
  · rw [if_neg h]; exact den_noV (e := (0, 57, 314)) (as := [.int a0, .int a1, .int a2]) (rest := [.ref b0]) eX5_readToken dX5_readToken_79 (by decide +kernel) rfl rfl rfl h
theorem rX5_readToken_114 (l0 l1 : Option Value) (a0 : Int32) (a1 : Int32) (a2 : Int32) (b0 : Nat) (q : Nat) (σ : dS) : den mX5_readToken 114 [l0, l1] [.int a2, .int a1, .int a0, .ref q, .ref b0] σ = if disO σ q 4 = true then ((dcall mX5_endOfSpan [.ref q, .int a0, .int a1, .int a2] σ).bind fun r => den mX5_readToken 117 [l0, l1] (r.1.toList ++ [.ref b0]) r.2) else none := by
  by_cases h : disO σ q 4 = true
  · rw [if_pos h]; exact dn_callV (e := (0, 57, 314)) (as := [.int a0, .int a1, .int a2]) (rest := [.ref b0]) eX5_readToken dX5_readToken_114 (by decide +kernel) rfl (by decide +kernel) rfl (dcat_le rfl) (dlen_le rfl) rfl h
  · rw [if_neg h]; exact den_noV (e := (0, 57, 314)) (as := [.int a0, .int a1, .int a2]) (rest := [.ref b0]) eX5_readToken dX5_readToken_114 (by decide +kernel) rfl rfl rfl h
theorem rX5_readToken_135 (l0 l1 : Option Value) (a0 : Int32) (q : Nat) (σ : dS) : den mX5_readToken 135 [l0, l1] [.int a0, .ref q] σ = if disO σ q 4 = true then ((dcall mX5_refuse [.ref q, .int a0] σ).bind fun r => den mX5_readToken 138 [l0, l1] (r.1.toList ++ []) r.2) else none := by
  by_cases h : disO σ q 4 = true
  · rw [if_pos h]; exact dn_callV (e := (0, 56, 318)) (as := [.int a0]) (rest := []) eX5_readToken dX5_readToken_135 (by decide +kernel) rfl (by decide +kernel) rfl (dcat_le rfl) (dlen_le rfl) rfl h
  · rw [if_neg h]; exact den_noV (e := (0, 56, 318)) (as := [.int a0]) (rest := []) eX5_readToken dX5_readToken_135 (by decide +kernel) rfl rfl rfl h
theorem rX5_readToken_182 (l0 l1 : Option Value) (a0 : Int32) (q : Nat) (σ : dS) : den mX5_readToken 182 [l0, l1] [.int a0, .ref q] σ = if disO σ q 4 = true then ((dcall mX5_refuse [.ref q, .int a0] σ).bind fun r => den mX5_readToken 185 [l0, l1] (r.1.toList ++ []) r.2) else none := by
  by_cases h : disO σ q 4 = true
  · rw [if_pos h]; exact dn_callV (e := (0, 56, 318)) (as := [.int a0]) (rest := []) eX5_readToken dX5_readToken_182 (by decide +kernel) rfl (by decide +kernel) rfl (dcat_le rfl) (dlen_le rfl) rfl h
  · rw [if_neg h]; exact den_noV (e := (0, 56, 318)) (as := [.int a0]) (rest := []) eX5_readToken dX5_readToken_182 (by decide +kernel) rfl rfl rfl h
set_option maxRecDepth 20000 in
theorem SX5_readToken_0 : (∀ (l1 : Option Value) (x : Nat) (st : List Value) (σ : dS), den mX5_readToken 0 [some (.ref x), l1] st σ = den mX5_readToken 1 [some (.ref x), l1] (.ref x :: st) σ) ∧
  (∀ (l1 : Option Value) (x : Nat) (st : List Value) (σ : dS), den mX5_readToken 1 [some (.ref x), l1] st σ = den mX5_readToken 2 [some (.ref x), l1] (.ref x :: st) σ) ∧
  (∀ (l1 : Option Value) (x : Nat) (st : List Value) (σ : dS), den mX5_readToken 2 [some (.ref x), l1] st σ = den mX5_readToken 3 [some (.ref x), l1] (.ref x :: st) σ) ∧
  (∀ (l0 l1 : Option Value) (q : Nat) (st : List Value) (σ : dS), den mX5_readToken 3 [l0, l1] (.ref q :: st) σ = (dget σ q 4 7).bind fun v => den mX5_readToken 6 [l0, l1] (v :: st) σ) ∧
  (∀ (l0 l1 : Option Value) (st : List Value) (σ : dS), den mX5_readToken 6 [l0, l1] st σ = den mX5_readToken 8 [l0, l1] (.int (nI 32) :: st) σ) ∧
  (∀ (l0 l1 : Option Value) (st : List Value) (σ : dS), den mX5_readToken 8 [l0, l1] st σ = den mX5_readToken 10 [l0, l1] (.int (nI 32) :: st) σ) ∧
  (∀ (l0 l1 : Option Value) (a0 : Int32) (a1 : Int32) (a2 : Int32) (b0 : Nat) (q : Nat) (σ : dS), den mX5_readToken 10 [l0, l1] [.int a2, .int a1, .int a0, .ref q, .ref b0] σ = if disO σ q 4 = true then ((dcall mX5_endOfSpan [.ref q, .int a0, .int a1, .int a2] σ).bind fun r => den mX5_readToken 13 [l0, l1] (r.1.toList ++ [.ref b0]) r.2) else none) ∧
  (∀ (l0 l1 : Option Value) (x : Int32) (q : Nat) (st : List Value) (σ : dS), den mX5_readToken 13 [l0, l1] (.int x :: .ref q :: st) σ = (dput σ q 4 7 (.int x)).bind fun τ => den mX5_readToken 16 [l0, l1] st τ) ∧
  (∀ (l1 : Option Value) (x : Nat) (st : List Value) (σ : dS), den mX5_readToken 16 [some (.ref x), l1] st σ = den mX5_readToken 17 [some (.ref x), l1] (.ref x :: st) σ) ∧
  (∀ (l1 : Option Value) (x : Nat) (st : List Value) (σ : dS), den mX5_readToken 17 [some (.ref x), l1] st σ = den mX5_readToken 18 [some (.ref x), l1] (.ref x :: st) σ) ∧
  (∀ (l0 l1 : Option Value) (q : Nat) (st : List Value) (σ : dS), den mX5_readToken 18 [l0, l1] (.ref q :: st) σ = (dget σ q 4 7).bind fun v => den mX5_readToken 21 [l0, l1] (v :: st) σ) ∧
  (∀ (l0 l1 : Option Value) (x : Int32) (q : Nat) (st : List Value) (σ : dS), den mX5_readToken 21 [l0, l1] (.int x :: .ref q :: st) σ = (dput σ q 4 6 (.int x)).bind fun τ => den mX5_readToken 24 [l0, l1] st τ) ∧
  (∀ (l1 : Option Value) (x : Nat) (st : List Value) (σ : dS), den mX5_readToken 24 [some (.ref x), l1] st σ = den mX5_readToken 25 [some (.ref x), l1] (.ref x :: st) σ) ∧
  (∀ (l0 l1 : Option Value) (q : Nat) (st : List Value) (σ : dS), den mX5_readToken 25 [l0, l1] (.ref q :: st) σ = (dget σ q 4 6).bind fun v => den mX5_readToken 28 [l0, l1] (v :: st) σ) ∧
  (∀ (l1 : Option Value) (x : Nat) (st : List Value) (σ : dS), den mX5_readToken 28 [some (.ref x), l1] st σ = den mX5_readToken 29 [some (.ref x), l1] (.ref x :: st) σ) ∧
  (∀ (l0 l1 : Option Value) (q : Nat) (st : List Value) (σ : dS), den mX5_readToken 29 [l0, l1] (.ref q :: st) σ = (dget σ q 4 3).bind fun v => den mX5_readToken 32 [l0, l1] (v :: st) σ) ∧
  (∀ (l0 l1 : Option Value) (x y : Int32) (st : List Value) (σ : dS), den mX5_readToken 32 [l0, l1] (.int y :: .int x :: st) σ = if x < y then den mX5_readToken 42 [l0, l1] st σ else den mX5_readToken 35 [l0, l1] st σ) ∧
  (∀ (l1 : Option Value) (x : Nat) (st : List Value) (σ : dS), den mX5_readToken 35 [some (.ref x), l1] st σ = den mX5_readToken 36 [some (.ref x), l1] (.ref x :: st) σ) ∧
  (∀ (l0 l1 : Option Value) (st : List Value) (σ : dS), den mX5_readToken 36 [l0, l1] st σ = den mX5_readToken 37 [l0, l1] (.int (nI 0) :: st) σ) ∧
  (∀ (l0 l1 : Option Value) (x : Int32) (q : Nat) (st : List Value) (σ : dS), den mX5_readToken 37 [l0, l1] (.int x :: .ref q :: st) σ = (dput σ q 4 5 (.int x)).bind fun τ => den mX5_readToken 40 [l0, l1] st τ) ∧
  (∀ (l0 l1 : Option Value) (st : List Value) (σ : dS), den mX5_readToken 40 [l0, l1] st σ = den mX5_readToken 41 [l0, l1] (.int (nI 1) :: st) σ) ∧
  (∀ (l0 l1 : Option Value) (v : Int32) (σ : dS), den mX5_readToken 41 [l0, l1] [.int v] σ = if v = 0 ∨ v = 1 then some (some (.int v), σ) else none) ∧
  (∀ (l1 : Option Value) (x : Nat) (st : List Value) (σ : dS), den mX5_readToken 42 [some (.ref x), l1] st σ = den mX5_readToken 43 [some (.ref x), l1] (.ref x :: st) σ) ∧
  (∀ (l0 l1 : Option Value) (q : Nat) (st : List Value) (σ : dS), den mX5_readToken 43 [l0, l1] (.ref q :: st) σ = (dget σ q 4 1).bind fun v => den mX5_readToken 46 [l0, l1] (v :: st) σ) ∧
  (∀ (l1 : Option Value) (x : Nat) (st : List Value) (σ : dS), den mX5_readToken 46 [some (.ref x), l1] st σ = den mX5_readToken 47 [some (.ref x), l1] (.ref x :: st) σ) ∧
  (∀ (l0 l1 : Option Value) (q : Nat) (st : List Value) (σ : dS), den mX5_readToken 47 [l0, l1] (.ref q :: st) σ = (dget σ q 4 6).bind fun v => den mX5_readToken 50 [l0, l1] (v :: st) σ) ∧
  (∀ (l0 l1 : Option Value) (q : Nat) (i : Int32) (st : List Value) (σ : dS), den mX5_readToken 50 [l0, l1] (.int i :: .ref q :: st) σ = (dbld σ q i).bind fun v => den mX5_readToken 51 [l0, l1] (.int v :: st) σ) ∧
  (∀ (l1 : Option Value) (x : Int32) (y : Nat) (st : List Value) (σ : dS), den mX5_readToken 51 [some (.ref y), l1] (.int x :: st) σ = den mX5_readToken 52 [some (.ref y), some (.int x)] st σ) ∧
  (∀ (l0 : Option Value) (x : Int32) (st : List Value) (σ : dS), den mX5_readToken 52 [l0, some (.int x)] st σ = den mX5_readToken 53 [l0, some (.int x)] (.int x :: st) σ) ∧
  (∀ (l0 l1 : Option Value) (st : List Value) (σ : dS), den mX5_readToken 53 [l0, l1] st σ = den mX5_readToken 55 [l0, l1] (.int (nI 97) :: st) σ) ∧
  (∀ (l0 l1 : Option Value) (x y : Int32) (st : List Value) (σ : dS), den mX5_readToken 55 [l0, l1] (.int y :: .int x :: st) σ = if x < y then den mX5_readToken 87 [l0, l1] st σ else den mX5_readToken 58 [l0, l1] st σ) ∧
  (∀ (l0 : Option Value) (x : Int32) (st : List Value) (σ : dS), den mX5_readToken 58 [l0, some (.int x)] st σ = den mX5_readToken 59 [l0, some (.int x)] (.int x :: st) σ) ∧
  (∀ (l0 l1 : Option Value) (st : List Value) (σ : dS), den mX5_readToken 59 [l0, l1] st σ = den mX5_readToken 61 [l0, l1] (.int (nI 122) :: st) σ) ∧
  (∀ (l0 l1 : Option Value) (x y : Int32) (st : List Value) (σ : dS), den mX5_readToken 61 [l0, l1] (.int y :: .int x :: st) σ = if y < x then den mX5_readToken 87 [l0, l1] st σ else den mX5_readToken 64 [l0, l1] st σ) ∧
  (∀ (l1 : Option Value) (x : Nat) (st : List Value) (σ : dS), den mX5_readToken 64 [some (.ref x), l1] st σ = den mX5_readToken 65 [some (.ref x), l1] (.ref x :: st) σ) ∧
  (∀ (l0 l1 : Option Value) (st : List Value) (σ : dS), den mX5_readToken 65 [l0, l1] st σ = den mX5_readToken 66 [l0, l1] (.int (nI 1) :: st) σ) ∧
  (∀ (l0 l1 : Option Value) (x : Int32) (q : Nat) (st : List Value) (σ : dS), den mX5_readToken 66 [l0, l1] (.int x :: .ref q :: st) σ = (dput σ q 4 5 (.int x)).bind fun τ => den mX5_readToken 69 [l0, l1] st τ) ∧
  (∀ (l1 : Option Value) (x : Nat) (st : List Value) (σ : dS), den mX5_readToken 69 [some (.ref x), l1] st σ = den mX5_readToken 70 [some (.ref x), l1] (.ref x :: st) σ) ∧
  (∀ (l1 : Option Value) (x : Nat) (st : List Value) (σ : dS), den mX5_readToken 70 [some (.ref x), l1] st σ = den mX5_readToken 71 [some (.ref x), l1] (.ref x :: st) σ) ∧
  (∀ (l1 : Option Value) (x : Nat) (st : List Value) (σ : dS), den mX5_readToken 71 [some (.ref x), l1] st σ = den mX5_readToken 72 [some (.ref x), l1] (.ref x :: st) σ) :=
  ⟨fun l1 x st σ => dn_aload_n eX5_readToken dX5_readToken_0 rfl,
  fun l1 x st σ => dn_aload_n eX5_readToken dX5_readToken_1 rfl,
  fun l1 x st σ => dn_aload_n eX5_readToken dX5_readToken_2 rfl,
  fun l0 l1 q st σ => dn_getfield (f := (4, 7, 154)) eX5_readToken dX5_readToken_3 (by decide +kernel),
  fun l0 l1 st σ => dn_bipush eX5_readToken dX5_readToken_6 kc_bipush_32,
  fun l0 l1 st σ => dn_bipush eX5_readToken dX5_readToken_8 kc_bipush_32,
  fun l0 l1 a0 a1 a2 b0 q σ => rX5_readToken_10 l0 l1 a0 a1 a2 b0 q σ,
  fun l0 l1 x q st σ => dn_putfield (f := (4, 7, 154)) (ty := .int) eX5_readToken dX5_readToken_13 (by decide +kernel) (by decide +kernel) rfl,
  fun l1 x st σ => dn_aload_n eX5_readToken dX5_readToken_16 rfl,
  fun l1 x st σ => dn_aload_n eX5_readToken dX5_readToken_17 rfl,
  fun l0 l1 q st σ => dn_getfield (f := (4, 7, 154)) eX5_readToken dX5_readToken_18 (by decide +kernel),
  fun l0 l1 x q st σ => dn_putfield (f := (4, 6, 153)) (ty := .int) eX5_readToken dX5_readToken_21 (by decide +kernel) (by decide +kernel) rfl,
  fun l1 x st σ => dn_aload_n eX5_readToken dX5_readToken_24 rfl,
  fun l0 l1 q st σ => dn_getfield (f := (4, 6, 153)) eX5_readToken dX5_readToken_25 (by decide +kernel),
  fun l1 x st σ => dn_aload_n eX5_readToken dX5_readToken_28 rfl,
  fun l0 l1 q st σ => dn_getfield (f := (4, 3, 150)) eX5_readToken dX5_readToken_29 (by decide +kernel),
  fun l0 l1 x y st σ => dn_icmp_lt eX5_readToken dX5_readToken_32 (by decide),
  fun l1 x st σ => dn_aload_n eX5_readToken dX5_readToken_35 rfl,
  fun l0 l1 st σ => dn_iconst eX5_readToken dX5_readToken_36 kc_iconst_0,
  fun l0 l1 x q st σ => dn_putfield (f := (4, 5, 152)) (ty := .int) eX5_readToken dX5_readToken_37 (by decide +kernel) (by decide +kernel) rfl,
  fun l0 l1 st σ => dn_iconst eX5_readToken dX5_readToken_40 kc_iconst_1,
  fun l0 l1 v σ => dn_zreturn eX5_readToken dX5_readToken_41 rfl,
  fun l1 x st σ => dn_aload_n eX5_readToken dX5_readToken_42 rfl,
  fun l0 l1 q st σ => dn_getfield (f := (4, 1, 146)) eX5_readToken dX5_readToken_43 (by decide +kernel),
  fun l1 x st σ => dn_aload_n eX5_readToken dX5_readToken_46 rfl,
  fun l0 l1 q st σ => dn_getfield (f := (4, 6, 153)) eX5_readToken dX5_readToken_47 (by decide +kernel),
  fun l0 l1 q i st σ => dn_baload eX5_readToken dX5_readToken_50,
  fun l1 x y st σ => dn_istore_n eX5_readToken dX5_readToken_51 rfl,
  fun l0 x st σ => dn_iload_n eX5_readToken dX5_readToken_52 rfl,
  fun l0 l1 st σ => dn_bipush eX5_readToken dX5_readToken_53 kc_bipush_97,
  fun l0 l1 x y st σ => dn_icmp_lt eX5_readToken dX5_readToken_55 (by decide),
  fun l0 x st σ => dn_iload_n eX5_readToken dX5_readToken_58 rfl,
  fun l0 l1 st σ => dn_bipush eX5_readToken dX5_readToken_59 kc_bipush_122,
  fun l0 l1 x y st σ => dn_icmp_gt eX5_readToken dX5_readToken_61 (by decide),
  fun l1 x st σ => dn_aload_n eX5_readToken dX5_readToken_64 rfl,
  fun l0 l1 st σ => dn_iconst eX5_readToken dX5_readToken_65 kc_iconst_1,
  fun l0 l1 x q st σ => dn_putfield (f := (4, 5, 152)) (ty := .int) eX5_readToken dX5_readToken_66 (by decide +kernel) (by decide +kernel) rfl,
  fun l1 x st σ => dn_aload_n eX5_readToken dX5_readToken_69 rfl,
  fun l1 x st σ => dn_aload_n eX5_readToken dX5_readToken_70 rfl,
  fun l1 x st σ => dn_aload_n eX5_readToken dX5_readToken_71 rfl⟩
set_option maxRecDepth 20000 in
theorem SX5_readToken_1 : (∀ (l0 l1 : Option Value) (q : Nat) (st : List Value) (σ : dS), den mX5_readToken 72 [l0, l1] (.ref q :: st) σ = (dget σ q 4 6).bind fun v => den mX5_readToken 75 [l0, l1] (v :: st) σ) ∧
  (∀ (l0 l1 : Option Value) (st : List Value) (σ : dS), den mX5_readToken 75 [l0, l1] st σ = den mX5_readToken 77 [l0, l1] (.int (nI 97) :: st) σ) ∧
  (∀ (l0 l1 : Option Value) (st : List Value) (σ : dS), den mX5_readToken 77 [l0, l1] st σ = den mX5_readToken 79 [l0, l1] (.int (nI 122) :: st) σ) ∧
  (∀ (l0 l1 : Option Value) (a0 : Int32) (a1 : Int32) (a2 : Int32) (b0 : Nat) (q : Nat) (σ : dS), den mX5_readToken 79 [l0, l1] [.int a2, .int a1, .int a0, .ref q, .ref b0] σ = if disO σ q 4 = true then ((dcall mX5_endOfSpan [.ref q, .int a0, .int a1, .int a2] σ).bind fun r => den mX5_readToken 82 [l0, l1] (r.1.toList ++ [.ref b0]) r.2) else none) ∧
  (∀ (l0 l1 : Option Value) (x : Int32) (q : Nat) (st : List Value) (σ : dS), den mX5_readToken 82 [l0, l1] (.int x :: .ref q :: st) σ = (dput σ q 4 7 (.int x)).bind fun τ => den mX5_readToken 85 [l0, l1] st τ) ∧
  (∀ (l0 l1 : Option Value) (st : List Value) (σ : dS), den mX5_readToken 85 [l0, l1] st σ = den mX5_readToken 86 [l0, l1] (.int (nI 1) :: st) σ) ∧
  (∀ (l0 l1 : Option Value) (v : Int32) (σ : dS), den mX5_readToken 86 [l0, l1] [.int v] σ = if v = 0 ∨ v = 1 then some (some (.int v), σ) else none) ∧
  (∀ (l0 : Option Value) (x : Int32) (st : List Value) (σ : dS), den mX5_readToken 87 [l0, some (.int x)] st σ = den mX5_readToken 88 [l0, some (.int x)] (.int x :: st) σ) ∧
  (∀ (l0 l1 : Option Value) (st : List Value) (σ : dS), den mX5_readToken 88 [l0, l1] st σ = den mX5_readToken 90 [l0, l1] (.int (nI 48) :: st) σ) ∧
  (∀ (l0 l1 : Option Value) (x y : Int32) (st : List Value) (σ : dS), den mX5_readToken 90 [l0, l1] (.int y :: .int x :: st) σ = if x < y then den mX5_readToken 147 [l0, l1] st σ else den mX5_readToken 93 [l0, l1] st σ) ∧
  (∀ (l0 : Option Value) (x : Int32) (st : List Value) (σ : dS), den mX5_readToken 93 [l0, some (.int x)] st σ = den mX5_readToken 94 [l0, some (.int x)] (.int x :: st) σ) ∧
  (∀ (l0 l1 : Option Value) (st : List Value) (σ : dS), den mX5_readToken 94 [l0, l1] st σ = den mX5_readToken 96 [l0, l1] (.int (nI 57) :: st) σ) ∧
  (∀ (l0 l1 : Option Value) (x y : Int32) (st : List Value) (σ : dS), den mX5_readToken 96 [l0, l1] (.int y :: .int x :: st) σ = if y < x then den mX5_readToken 147 [l0, l1] st σ else den mX5_readToken 99 [l0, l1] st σ) ∧
  (∀ (l1 : Option Value) (x : Nat) (st : List Value) (σ : dS), den mX5_readToken 99 [some (.ref x), l1] st σ = den mX5_readToken 100 [some (.ref x), l1] (.ref x :: st) σ) ∧
  (∀ (l0 l1 : Option Value) (st : List Value) (σ : dS), den mX5_readToken 100 [l0, l1] st σ = den mX5_readToken 101 [l0, l1] (.int (nI 2) :: st) σ) ∧
  (∀ (l0 l1 : Option Value) (x : Int32) (q : Nat) (st : List Value) (σ : dS), den mX5_readToken 101 [l0, l1] (.int x :: .ref q :: st) σ = (dput σ q 4 5 (.int x)).bind fun τ => den mX5_readToken 104 [l0, l1] st τ) ∧
  (∀ (l1 : Option Value) (x : Nat) (st : List Value) (σ : dS), den mX5_readToken 104 [some (.ref x), l1] st σ = den mX5_readToken 105 [some (.ref x), l1] (.ref x :: st) σ) ∧
  (∀ (l1 : Option Value) (x : Nat) (st : List Value) (σ : dS), den mX5_readToken 105 [some (.ref x), l1] st σ = den mX5_readToken 106 [some (.ref x), l1] (.ref x :: st) σ) ∧
  (∀ (l1 : Option Value) (x : Nat) (st : List Value) (σ : dS), den mX5_readToken 106 [some (.ref x), l1] st σ = den mX5_readToken 107 [some (.ref x), l1] (.ref x :: st) σ) ∧
  (∀ (l0 l1 : Option Value) (q : Nat) (st : List Value) (σ : dS), den mX5_readToken 107 [l0, l1] (.ref q :: st) σ = (dget σ q 4 6).bind fun v => den mX5_readToken 110 [l0, l1] (v :: st) σ) ∧
  (∀ (l0 l1 : Option Value) (st : List Value) (σ : dS), den mX5_readToken 110 [l0, l1] st σ = den mX5_readToken 112 [l0, l1] (.int (nI 48) :: st) σ) ∧
  (∀ (l0 l1 : Option Value) (st : List Value) (σ : dS), den mX5_readToken 112 [l0, l1] st σ = den mX5_readToken 114 [l0, l1] (.int (nI 57) :: st) σ) ∧
  (∀ (l0 l1 : Option Value) (a0 : Int32) (a1 : Int32) (a2 : Int32) (b0 : Nat) (q : Nat) (σ : dS), den mX5_readToken 114 [l0, l1] [.int a2, .int a1, .int a0, .ref q, .ref b0] σ = if disO σ q 4 = true then ((dcall mX5_endOfSpan [.ref q, .int a0, .int a1, .int a2] σ).bind fun r => den mX5_readToken 117 [l0, l1] (r.1.toList ++ [.ref b0]) r.2) else none) ∧
  (∀ (l0 l1 : Option Value) (x : Int32) (q : Nat) (st : List Value) (σ : dS), den mX5_readToken 117 [l0, l1] (.int x :: .ref q :: st) σ = (dput σ q 4 7 (.int x)).bind fun τ => den mX5_readToken 120 [l0, l1] st τ) ∧
  (∀ (l1 : Option Value) (x : Nat) (st : List Value) (σ : dS), den mX5_readToken 120 [some (.ref x), l1] st σ = den mX5_readToken 121 [some (.ref x), l1] (.ref x :: st) σ) ∧
  (∀ (l0 l1 : Option Value) (q : Nat) (st : List Value) (σ : dS), den mX5_readToken 121 [l0, l1] (.ref q :: st) σ = (dget σ q 4 7).bind fun v => den mX5_readToken 124 [l0, l1] (v :: st) σ) ∧
  (∀ (l1 : Option Value) (x : Nat) (st : List Value) (σ : dS), den mX5_readToken 124 [some (.ref x), l1] st σ = den mX5_readToken 125 [some (.ref x), l1] (.ref x :: st) σ) ∧
  (∀ (l0 l1 : Option Value) (q : Nat) (st : List Value) (σ : dS), den mX5_readToken 125 [l0, l1] (.ref q :: st) σ = (dget σ q 4 6).bind fun v => den mX5_readToken 128 [l0, l1] (v :: st) σ) ∧
  (∀ (l0 l1 : Option Value) (x y : Int32) (st : List Value) (σ : dS), den mX5_readToken 128 [l0, l1] (.int y :: .int x :: st) σ = den mX5_readToken 129 [l0, l1] (.int (x - y) :: st) σ) ∧
  (∀ (l0 l1 : Option Value) (st : List Value) (σ : dS), den mX5_readToken 129 [l0, l1] st σ = den mX5_readToken 130 [l0, l1] (.int (nI 2) :: st) σ) ∧
  (∀ (l0 l1 : Option Value) (x y : Int32) (st : List Value) (σ : dS), den mX5_readToken 130 [l0, l1] (.int y :: .int x :: st) σ = if y < x then den mX5_readToken 133 [l0, l1] st σ else den mX5_readToken 141 [l0, l1] st σ) ∧
  (∀ (l1 : Option Value) (x : Nat) (st : List Value) (σ : dS), den mX5_readToken 133 [some (.ref x), l1] st σ = den mX5_readToken 134 [some (.ref x), l1] (.ref x :: st) σ) ∧
  (∀ (l0 l1 : Option Value) (st : List Value) (σ : dS), den mX5_readToken 134 [l0, l1] st σ = den mX5_readToken 135 [l0, l1] (.int (nI 1) :: st) σ) ∧
  (∀ (l0 l1 : Option Value) (a0 : Int32) (q : Nat) (σ : dS), den mX5_readToken 135 [l0, l1] [.int a0, .ref q] σ = if disO σ q 4 = true then ((dcall mX5_refuse [.ref q, .int a0] σ).bind fun r => den mX5_readToken 138 [l0, l1] (r.1.toList ++ []) r.2) else none) ∧
  (∀ (l0 l1 : Option Value) (x : Int32) (st : List Value) (σ : dS), den mX5_readToken 138 [l0, l1] (.int x :: st) σ = if x = 0 then den mX5_readToken 145 [l0, l1] st σ else den mX5_readToken 141 [l0, l1] st σ) ∧
  (∀ (l0 l1 : Option Value) (st : List Value) (σ : dS), den mX5_readToken 141 [l0, l1] st σ = den mX5_readToken 142 [l0, l1] (.int (nI 1) :: st) σ) ∧
  (∀ (l0 l1 : Option Value) (st : List Value) (σ : dS), den mX5_readToken 142 [l0, l1] st σ = den mX5_readToken 146 [l0, l1] st σ) ∧
  (∀ (l0 l1 : Option Value) (st : List Value) (σ : dS), den mX5_readToken 145 [l0, l1] st σ = den mX5_readToken 146 [l0, l1] (.int (nI 0) :: st) σ) ∧
  (∀ (l0 l1 : Option Value) (v : Int32) (σ : dS), den mX5_readToken 146 [l0, l1] [.int v] σ = if v = 0 ∨ v = 1 then some (some (.int v), σ) else none) ∧
  (∀ (l1 : Option Value) (x : Nat) (st : List Value) (σ : dS), den mX5_readToken 147 [some (.ref x), l1] st σ = den mX5_readToken 148 [some (.ref x), l1] (.ref x :: st) σ) :=
  ⟨fun l0 l1 q st σ => dn_getfield (f := (4, 6, 153)) eX5_readToken dX5_readToken_72 (by decide +kernel),
  fun l0 l1 st σ => dn_bipush eX5_readToken dX5_readToken_75 kc_bipush_97,
  fun l0 l1 st σ => dn_bipush eX5_readToken dX5_readToken_77 kc_bipush_122,
  fun l0 l1 a0 a1 a2 b0 q σ => rX5_readToken_79 l0 l1 a0 a1 a2 b0 q σ,
  fun l0 l1 x q st σ => dn_putfield (f := (4, 7, 154)) (ty := .int) eX5_readToken dX5_readToken_82 (by decide +kernel) (by decide +kernel) rfl,
  fun l0 l1 st σ => dn_iconst eX5_readToken dX5_readToken_85 kc_iconst_1,
  fun l0 l1 v σ => dn_zreturn eX5_readToken dX5_readToken_86 rfl,
  fun l0 x st σ => dn_iload_n eX5_readToken dX5_readToken_87 rfl,
  fun l0 l1 st σ => dn_bipush eX5_readToken dX5_readToken_88 kc_bipush_48,
  fun l0 l1 x y st σ => dn_icmp_lt eX5_readToken dX5_readToken_90 (by decide),
  fun l0 x st σ => dn_iload_n eX5_readToken dX5_readToken_93 rfl,
  fun l0 l1 st σ => dn_bipush eX5_readToken dX5_readToken_94 kc_bipush_57,
  fun l0 l1 x y st σ => dn_icmp_gt eX5_readToken dX5_readToken_96 (by decide),
  fun l1 x st σ => dn_aload_n eX5_readToken dX5_readToken_99 rfl,
  fun l0 l1 st σ => dn_iconst eX5_readToken dX5_readToken_100 kc_iconst_2,
  fun l0 l1 x q st σ => dn_putfield (f := (4, 5, 152)) (ty := .int) eX5_readToken dX5_readToken_101 (by decide +kernel) (by decide +kernel) rfl,
  fun l1 x st σ => dn_aload_n eX5_readToken dX5_readToken_104 rfl,
  fun l1 x st σ => dn_aload_n eX5_readToken dX5_readToken_105 rfl,
  fun l1 x st σ => dn_aload_n eX5_readToken dX5_readToken_106 rfl,
  fun l0 l1 q st σ => dn_getfield (f := (4, 6, 153)) eX5_readToken dX5_readToken_107 (by decide +kernel),
  fun l0 l1 st σ => dn_bipush eX5_readToken dX5_readToken_110 kc_bipush_48,
  fun l0 l1 st σ => dn_bipush eX5_readToken dX5_readToken_112 kc_bipush_57,
  fun l0 l1 a0 a1 a2 b0 q σ => rX5_readToken_114 l0 l1 a0 a1 a2 b0 q σ,
  fun l0 l1 x q st σ => dn_putfield (f := (4, 7, 154)) (ty := .int) eX5_readToken dX5_readToken_117 (by decide +kernel) (by decide +kernel) rfl,
  fun l1 x st σ => dn_aload_n eX5_readToken dX5_readToken_120 rfl,
  fun l0 l1 q st σ => dn_getfield (f := (4, 7, 154)) eX5_readToken dX5_readToken_121 (by decide +kernel),
  fun l1 x st σ => dn_aload_n eX5_readToken dX5_readToken_124 rfl,
  fun l0 l1 q st σ => dn_getfield (f := (4, 6, 153)) eX5_readToken dX5_readToken_125 (by decide +kernel),
  fun l0 l1 x y st σ => dn_isub eX5_readToken dX5_readToken_128,
  fun l0 l1 st σ => dn_iconst eX5_readToken dX5_readToken_129 kc_iconst_2,
  fun l0 l1 x y st σ => dn_icmp_le eX5_readToken dX5_readToken_130 (by decide),
  fun l1 x st σ => dn_aload_n eX5_readToken dX5_readToken_133 rfl,
  fun l0 l1 st σ => dn_iconst eX5_readToken dX5_readToken_134 kc_iconst_1,
  fun l0 l1 a0 q σ => rX5_readToken_135 l0 l1 a0 q σ,
  fun l0 l1 x st σ => dn_if_eq eX5_readToken dX5_readToken_138 (by decide),
  fun l0 l1 st σ => dn_iconst eX5_readToken dX5_readToken_141 kc_iconst_1,
  fun l0 l1 st σ => dn_goto eX5_readToken dX5_readToken_142 (by decide),
  fun l0 l1 st σ => dn_iconst eX5_readToken dX5_readToken_145 kc_iconst_0,
  fun l0 l1 v σ => dn_zreturn eX5_readToken dX5_readToken_146 rfl,
  fun l1 x st σ => dn_aload_n eX5_readToken dX5_readToken_147 rfl⟩
set_option maxRecDepth 20000 in
theorem SX5_readToken_2 : (∀ (l0 : Option Value) (x : Int32) (st : List Value) (σ : dS), den mX5_readToken 148 [l0, some (.int x)] st σ = den mX5_readToken 149 [l0, some (.int x)] (.int x :: st) σ) ∧
  (∀ (l0 l1 : Option Value) (x : Int32) (q : Nat) (st : List Value) (σ : dS), den mX5_readToken 149 [l0, l1] (.int x :: .ref q :: st) σ = (dput σ q 4 5 (.int x)).bind fun τ => den mX5_readToken 152 [l0, l1] st τ) ∧
  (∀ (l1 : Option Value) (x : Nat) (st : List Value) (σ : dS), den mX5_readToken 152 [some (.ref x), l1] st σ = den mX5_readToken 153 [some (.ref x), l1] (.ref x :: st) σ) ∧
  (∀ (l1 : Option Value) (x : Nat) (st : List Value) (σ : dS), den mX5_readToken 153 [some (.ref x), l1] st σ = den mX5_readToken 154 [some (.ref x), l1] (.ref x :: st) σ) ∧
  (∀ (l0 l1 : Option Value) (q : Nat) (st : List Value) (σ : dS), den mX5_readToken 154 [l0, l1] (.ref q :: st) σ = (dget σ q 4 6).bind fun v => den mX5_readToken 157 [l0, l1] (v :: st) σ) ∧
  (∀ (l0 l1 : Option Value) (st : List Value) (σ : dS), den mX5_readToken 157 [l0, l1] st σ = den mX5_readToken 158 [l0, l1] (.int (nI 1) :: st) σ) ∧
  (∀ (l0 l1 : Option Value) (x y : Int32) (st : List Value) (σ : dS), den mX5_readToken 158 [l0, l1] (.int y :: .int x :: st) σ = den mX5_readToken 159 [l0, l1] (.int (x + y) :: st) σ) ∧
  (∀ (l0 l1 : Option Value) (x : Int32) (q : Nat) (st : List Value) (σ : dS), den mX5_readToken 159 [l0, l1] (.int x :: .ref q :: st) σ = (dput σ q 4 7 (.int x)).bind fun τ => den mX5_readToken 162 [l0, l1] st τ) ∧
  (∀ (l0 : Option Value) (x : Int32) (st : List Value) (σ : dS), den mX5_readToken 162 [l0, some (.int x)] st σ = den mX5_readToken 163 [l0, some (.int x)] (.int x :: st) σ) ∧
  (∀ (l0 l1 : Option Value) (st : List Value) (σ : dS), den mX5_readToken 163 [l0, l1] st σ = den mX5_readToken 165 [l0, l1] (.int (nI 59) :: st) σ) ∧
  (∀ (l0 l1 : Option Value) (x y : Int32) (st : List Value) (σ : dS), den mX5_readToken 165 [l0, l1] (.int y :: .int x :: st) σ = if x = y then den mX5_readToken 188 [l0, l1] st σ else den mX5_readToken 168 [l0, l1] st σ) ∧
  (∀ (l0 : Option Value) (x : Int32) (st : List Value) (σ : dS), den mX5_readToken 168 [l0, some (.int x)] st σ = den mX5_readToken 169 [l0, some (.int x)] (.int x :: st) σ) ∧
  (∀ (l0 l1 : Option Value) (st : List Value) (σ : dS), den mX5_readToken 169 [l0, l1] st σ = den mX5_readToken 171 [l0, l1] (.int (nI 123) :: st) σ) ∧
  (∀ (l0 l1 : Option Value) (x y : Int32) (st : List Value) (σ : dS), den mX5_readToken 171 [l0, l1] (.int y :: .int x :: st) σ = if x = y then den mX5_readToken 188 [l0, l1] st σ else den mX5_readToken 174 [l0, l1] st σ) ∧
  (∀ (l0 : Option Value) (x : Int32) (st : List Value) (σ : dS), den mX5_readToken 174 [l0, some (.int x)] st σ = den mX5_readToken 175 [l0, some (.int x)] (.int x :: st) σ) ∧
  (∀ (l0 l1 : Option Value) (st : List Value) (σ : dS), den mX5_readToken 175 [l0, l1] st σ = den mX5_readToken 177 [l0, l1] (.int (nI 125) :: st) σ) ∧
  (∀ (l0 l1 : Option Value) (x y : Int32) (st : List Value) (σ : dS), den mX5_readToken 177 [l0, l1] (.int y :: .int x :: st) σ = if x = y then den mX5_readToken 188 [l0, l1] st σ else den mX5_readToken 180 [l0, l1] st σ) ∧
  (∀ (l1 : Option Value) (x : Nat) (st : List Value) (σ : dS), den mX5_readToken 180 [some (.ref x), l1] st σ = den mX5_readToken 181 [some (.ref x), l1] (.ref x :: st) σ) ∧
  (∀ (l0 l1 : Option Value) (st : List Value) (σ : dS), den mX5_readToken 181 [l0, l1] st σ = den mX5_readToken 182 [l0, l1] (.int (nI 1) :: st) σ) ∧
  (∀ (l0 l1 : Option Value) (a0 : Int32) (q : Nat) (σ : dS), den mX5_readToken 182 [l0, l1] [.int a0, .ref q] σ = if disO σ q 4 = true then ((dcall mX5_refuse [.ref q, .int a0] σ).bind fun r => den mX5_readToken 185 [l0, l1] (r.1.toList ++ []) r.2) else none) ∧
  (∀ (l0 l1 : Option Value) (x : Int32) (st : List Value) (σ : dS), den mX5_readToken 185 [l0, l1] (.int x :: st) σ = if x = 0 then den mX5_readToken 192 [l0, l1] st σ else den mX5_readToken 188 [l0, l1] st σ) ∧
  (∀ (l0 l1 : Option Value) (st : List Value) (σ : dS), den mX5_readToken 188 [l0, l1] st σ = den mX5_readToken 189 [l0, l1] (.int (nI 1) :: st) σ) ∧
  (∀ (l0 l1 : Option Value) (st : List Value) (σ : dS), den mX5_readToken 189 [l0, l1] st σ = den mX5_readToken 193 [l0, l1] st σ) ∧
  (∀ (l0 l1 : Option Value) (st : List Value) (σ : dS), den mX5_readToken 192 [l0, l1] st σ = den mX5_readToken 193 [l0, l1] (.int (nI 0) :: st) σ) ∧
  (∀ (l0 l1 : Option Value) (v : Int32) (σ : dS), den mX5_readToken 193 [l0, l1] [.int v] σ = if v = 0 ∨ v = 1 then some (some (.int v), σ) else none) :=
  ⟨fun l0 x st σ => dn_iload_n eX5_readToken dX5_readToken_148 rfl,
  fun l0 l1 x q st σ => dn_putfield (f := (4, 5, 152)) (ty := .int) eX5_readToken dX5_readToken_149 (by decide +kernel) (by decide +kernel) rfl,
  fun l1 x st σ => dn_aload_n eX5_readToken dX5_readToken_152 rfl,
  fun l1 x st σ => dn_aload_n eX5_readToken dX5_readToken_153 rfl,
  fun l0 l1 q st σ => dn_getfield (f := (4, 6, 153)) eX5_readToken dX5_readToken_154 (by decide +kernel),
  fun l0 l1 st σ => dn_iconst eX5_readToken dX5_readToken_157 kc_iconst_1,
  fun l0 l1 x y st σ => dn_iadd eX5_readToken dX5_readToken_158,
  fun l0 l1 x q st σ => dn_putfield (f := (4, 7, 154)) (ty := .int) eX5_readToken dX5_readToken_159 (by decide +kernel) (by decide +kernel) rfl,
  fun l0 x st σ => dn_iload_n eX5_readToken dX5_readToken_162 rfl,
  fun l0 l1 st σ => dn_bipush eX5_readToken dX5_readToken_163 kc_bipush_59,
  fun l0 l1 x y st σ => dn_icmp_eq eX5_readToken dX5_readToken_165 (by decide),
  fun l0 x st σ => dn_iload_n eX5_readToken dX5_readToken_168 rfl,
  fun l0 l1 st σ => dn_bipush eX5_readToken dX5_readToken_169 kc_bipush_123,
  fun l0 l1 x y st σ => dn_icmp_eq eX5_readToken dX5_readToken_171 (by decide),
  fun l0 x st σ => dn_iload_n eX5_readToken dX5_readToken_174 rfl,
  fun l0 l1 st σ => dn_bipush eX5_readToken dX5_readToken_175 kc_bipush_125,
  fun l0 l1 x y st σ => dn_icmp_eq eX5_readToken dX5_readToken_177 (by decide),
  fun l1 x st σ => dn_aload_n eX5_readToken dX5_readToken_180 rfl,
  fun l0 l1 st σ => dn_iconst eX5_readToken dX5_readToken_181 kc_iconst_1,
  fun l0 l1 a0 q σ => rX5_readToken_182 l0 l1 a0 q σ,
  fun l0 l1 x st σ => dn_if_eq eX5_readToken dX5_readToken_185 (by decide),
  fun l0 l1 st σ => dn_iconst eX5_readToken dX5_readToken_188 kc_iconst_1,
  fun l0 l1 st σ => dn_goto eX5_readToken dX5_readToken_189 (by decide),
  fun l0 l1 st σ => dn_iconst eX5_readToken dX5_readToken_192 kc_iconst_0,
  fun l0 l1 v σ => dn_zreturn eX5_readToken dX5_readToken_193 rfl⟩
theorem CX5_takeSign (a0 : Nat) (a1 : Int32) (σ : dS) : dcall mX5_takeSign [.ref a0, .int a1] σ = den mX5_takeSign 0 [some (.ref a0), some (.int a1)] [] σ := dcall_den (by decide) rfl
theorem rX5_takeSign_1 (l0 l1 : Option Value) (q : Nat) (σ : dS) : den mX5_takeSign 1 [l0, l1] [.ref q] σ = if disO σ q 4 = true then ((dcall mX5_readToken [.ref q] σ).bind fun r => den mX5_takeSign 4 [l0, l1] (r.1.toList ++ []) r.2) else none := by
  by_cases h : disO σ q 4 = true
  · rw [if_pos h]; exact dn_callV (e := (0, 58, 310)) (as := []) (rest := []) eX5_takeSign dX5_takeSign_1 (by decide +kernel) rfl (by decide +kernel) rfl (dcat_le rfl) (dlen_le rfl) rfl h
  · rw [if_neg h]; exact den_noV (e := (0, 58, 310)) (as := []) (rest := []) eX5_takeSign dX5_takeSign_1 (by decide +kernel) rfl rfl rfl h
theorem rX5_takeSign_17 (l0 l1 : Option Value) (a0 : Int32) (q : Nat) (σ : dS) : den mX5_takeSign 17 [l0, l1] [.int a0, .ref q] σ = if disO σ q 4 = true then ((dcall mX5_refuse [.ref q, .int a0] σ).bind fun r => den mX5_takeSign 20 [l0, l1] (r.1.toList ++ []) r.2) else none := by
  by_cases h : disO σ q 4 = true
  · rw [if_pos h]; exact dn_callV (e := (0, 56, 318)) (as := [.int a0]) (rest := []) eX5_takeSign dX5_takeSign_17 (by decide +kernel) rfl (by decide +kernel) rfl (dcat_le rfl) (dlen_le rfl) rfl h
  · rw [if_neg h]; exact den_noV (e := (0, 56, 318)) (as := [.int a0]) (rest := []) eX5_takeSign dX5_takeSign_17 (by decide +kernel) rfl rfl rfl h
set_option maxRecDepth 20000 in
theorem SX5_takeSign : (∀ (l1 : Option Value) (x : Nat) (st : List Value) (σ : dS), den mX5_takeSign 0 [some (.ref x), l1] st σ = den mX5_takeSign 1 [some (.ref x), l1] (.ref x :: st) σ) ∧
  (∀ (l0 l1 : Option Value) (q : Nat) (σ : dS), den mX5_takeSign 1 [l0, l1] [.ref q] σ = if disO σ q 4 = true then ((dcall mX5_readToken [.ref q] σ).bind fun r => den mX5_takeSign 4 [l0, l1] (r.1.toList ++ []) r.2) else none) ∧
  (∀ (l0 l1 : Option Value) (x : Int32) (st : List Value) (σ : dS), den mX5_takeSign 4 [l0, l1] (.int x :: st) σ = if x = 0 then den mX5_takeSign 27 [l0, l1] st σ else den mX5_takeSign 7 [l0, l1] st σ) ∧
  (∀ (l1 : Option Value) (x : Nat) (st : List Value) (σ : dS), den mX5_takeSign 7 [some (.ref x), l1] st σ = den mX5_takeSign 8 [some (.ref x), l1] (.ref x :: st) σ) ∧
  (∀ (l0 l1 : Option Value) (q : Nat) (st : List Value) (σ : dS), den mX5_takeSign 8 [l0, l1] (.ref q :: st) σ = (dget σ q 4 5).bind fun v => den mX5_takeSign 11 [l0, l1] (v :: st) σ) ∧
  (∀ (l0 : Option Value) (x : Int32) (st : List Value) (σ : dS), den mX5_takeSign 11 [l0, some (.int x)] st σ = den mX5_takeSign 12 [l0, some (.int x)] (.int x :: st) σ) ∧
  (∀ (l0 l1 : Option Value) (x y : Int32) (st : List Value) (σ : dS), den mX5_takeSign 12 [l0, l1] (.int y :: .int x :: st) σ = if x = y then den mX5_takeSign 23 [l0, l1] st σ else den mX5_takeSign 15 [l0, l1] st σ) ∧
  (∀ (l1 : Option Value) (x : Nat) (st : List Value) (σ : dS), den mX5_takeSign 15 [some (.ref x), l1] st σ = den mX5_takeSign 16 [some (.ref x), l1] (.ref x :: st) σ) ∧
  (∀ (l0 l1 : Option Value) (st : List Value) (σ : dS), den mX5_takeSign 16 [l0, l1] st σ = den mX5_takeSign 17 [l0, l1] (.int (nI 2) :: st) σ) ∧
  (∀ (l0 l1 : Option Value) (a0 : Int32) (q : Nat) (σ : dS), den mX5_takeSign 17 [l0, l1] [.int a0, .ref q] σ = if disO σ q 4 = true then ((dcall mX5_refuse [.ref q, .int a0] σ).bind fun r => den mX5_takeSign 20 [l0, l1] (r.1.toList ++ []) r.2) else none) ∧
  (∀ (l0 l1 : Option Value) (x : Int32) (st : List Value) (σ : dS), den mX5_takeSign 20 [l0, l1] (.int x :: st) σ = if x = 0 then den mX5_takeSign 27 [l0, l1] st σ else den mX5_takeSign 23 [l0, l1] st σ) ∧
  (∀ (l0 l1 : Option Value) (st : List Value) (σ : dS), den mX5_takeSign 23 [l0, l1] st σ = den mX5_takeSign 24 [l0, l1] (.int (nI 1) :: st) σ) ∧
  (∀ (l0 l1 : Option Value) (st : List Value) (σ : dS), den mX5_takeSign 24 [l0, l1] st σ = den mX5_takeSign 28 [l0, l1] st σ) ∧
  (∀ (l0 l1 : Option Value) (st : List Value) (σ : dS), den mX5_takeSign 27 [l0, l1] st σ = den mX5_takeSign 28 [l0, l1] (.int (nI 0) :: st) σ) ∧
  (∀ (l0 l1 : Option Value) (v : Int32) (σ : dS), den mX5_takeSign 28 [l0, l1] [.int v] σ = if v = 0 ∨ v = 1 then some (some (.int v), σ) else none) :=
  ⟨fun l1 x st σ => dn_aload_n eX5_takeSign dX5_takeSign_0 rfl,
  fun l0 l1 q σ => rX5_takeSign_1 l0 l1 q σ,
  fun l0 l1 x st σ => dn_if_eq eX5_takeSign dX5_takeSign_4 (by decide),
  fun l1 x st σ => dn_aload_n eX5_takeSign dX5_takeSign_7 rfl,
  fun l0 l1 q st σ => dn_getfield (f := (4, 5, 152)) eX5_takeSign dX5_takeSign_8 (by decide +kernel),
  fun l0 x st σ => dn_iload_n eX5_takeSign dX5_takeSign_11 rfl,
  fun l0 l1 x y st σ => dn_icmp_eq eX5_takeSign dX5_takeSign_12 (by decide),
  fun l1 x st σ => dn_aload_n eX5_takeSign dX5_takeSign_15 rfl,
  fun l0 l1 st σ => dn_iconst eX5_takeSign dX5_takeSign_16 kc_iconst_2,
  fun l0 l1 a0 q σ => rX5_takeSign_17 l0 l1 a0 q σ,
  fun l0 l1 x st σ => dn_if_eq eX5_takeSign dX5_takeSign_20 (by decide),
  fun l0 l1 st σ => dn_iconst eX5_takeSign dX5_takeSign_23 kc_iconst_1,
  fun l0 l1 st σ => dn_goto eX5_takeSign dX5_takeSign_24 (by decide),
  fun l0 l1 st σ => dn_iconst eX5_takeSign dX5_takeSign_27 kc_iconst_0,
  fun l0 l1 v σ => dn_zreturn eX5_takeSign dX5_takeSign_28 rfl⟩
theorem CX5_closeSide (a0 : Nat) (σ : dS) : dcall mX5_closeSide [.ref a0] σ = den mX5_closeSide 0 [some (.ref a0), none] [] σ := dcall_den (by decide) rfl
theorem rX5_closeSide_18 (l0 l1 : Option Value) (a0 : Int32) (q : Nat) (σ : dS) : den mX5_closeSide 18 [l0, l1] [.int a0, .ref q] σ = if disO σ q 4 = true then ((dcall mX5_refuse [.ref q, .int a0] σ).bind fun r => den mX5_closeSide 21 [l0, l1] (r.1.toList ++ []) r.2) else none := by
  by_cases h : disO σ q 4 = true
  · rw [if_pos h]; exact dn_callV (e := (0, 56, 318)) (as := [.int a0]) (rest := []) eX5_closeSide dX5_closeSide_18 (by decide +kernel) rfl (by decide +kernel) rfl (dcat_le rfl) (dlen_le rfl) rfl h
  · rw [if_neg h]; exact den_noV (e := (0, 56, 318)) (as := [.int a0]) (rest := []) eX5_closeSide dX5_closeSide_18 (by decide +kernel) rfl rfl rfl h
theorem rX5_closeSide_58 (l0 l1 : Option Value) (a0 : Int32) (q : Nat) (σ : dS) : den mX5_closeSide 58 [l0, l1] [.int a0, .ref q] σ = if disO σ q 4 = true then ((dcall mX5_takeSign [.ref q, .int a0] σ).bind fun r => den mX5_closeSide 61 [l0, l1] (r.1.toList ++ []) r.2) else none := by
  by_cases h : disO σ q 4 = true
  · rw [if_pos h]; exact dn_callV (e := (0, 59, 404)) (as := [.int a0]) (rest := []) eX5_closeSide dX5_closeSide_58 (by decide +kernel) rfl (by decide +kernel) rfl (dcat_le rfl) (dlen_le rfl) rfl h
  · rw [if_neg h]; exact den_noV (e := (0, 59, 404)) (as := [.int a0]) (rest := []) eX5_closeSide dX5_closeSide_58 (by decide +kernel) rfl rfl rfl h
set_option maxRecDepth 20000 in
theorem SX5_closeSide_0 : (∀ (l1 : Option Value) (x : Nat) (st : List Value) (σ : dS), den mX5_closeSide 0 [some (.ref x), l1] st σ = den mX5_closeSide 1 [some (.ref x), l1] (.ref x :: st) σ) ∧
  (∀ (l0 l1 : Option Value) (q : Nat) (st : List Value) (σ : dS), den mX5_closeSide 1 [l0, l1] (.ref q :: st) σ = (dget σ q 4 5).bind fun v => den mX5_closeSide 4 [l0, l1] (v :: st) σ) ∧
  (∀ (l0 l1 : Option Value) (st : List Value) (σ : dS), den mX5_closeSide 4 [l0, l1] st σ = den mX5_closeSide 6 [l0, l1] (.int (nI 125) :: st) σ) ∧
  (∀ (l0 l1 : Option Value) (x y : Int32) (st : List Value) (σ : dS), den mX5_closeSide 6 [l0, l1] (.int y :: .int x :: st) σ = if x = y then den mX5_closeSide 9 [l0, l1] st σ else den mX5_closeSide 16 [l0, l1] st σ) ∧
  (∀ (l1 : Option Value) (x : Nat) (st : List Value) (σ : dS), den mX5_closeSide 9 [some (.ref x), l1] st σ = den mX5_closeSide 10 [some (.ref x), l1] (.ref x :: st) σ) ∧
  (∀ (l0 l1 : Option Value) (q : Nat) (st : List Value) (σ : dS), den mX5_closeSide 10 [l0, l1] (.ref q :: st) σ = (dget σ q 4 4).bind fun v => den mX5_closeSide 13 [l0, l1] (v :: st) σ) ∧
  (∀ (l0 l1 : Option Value) (x : Int32) (st : List Value) (σ : dS), den mX5_closeSide 13 [l0, l1] (.int x :: st) σ = if x = 0 then den mX5_closeSide 16 [l0, l1] st σ else den mX5_closeSide 22 [l0, l1] st σ) ∧
  (∀ (l1 : Option Value) (x : Nat) (st : List Value) (σ : dS), den mX5_closeSide 16 [some (.ref x), l1] st σ = den mX5_closeSide 17 [some (.ref x), l1] (.ref x :: st) σ) ∧
  (∀ (l0 l1 : Option Value) (st : List Value) (σ : dS), den mX5_closeSide 17 [l0, l1] st σ = den mX5_closeSide 18 [l0, l1] (.int (nI 2) :: st) σ) ∧
  (∀ (l0 l1 : Option Value) (a0 : Int32) (q : Nat) (σ : dS), den mX5_closeSide 18 [l0, l1] [.int a0, .ref q] σ = if disO σ q 4 = true then ((dcall mX5_refuse [.ref q, .int a0] σ).bind fun r => den mX5_closeSide 21 [l0, l1] (r.1.toList ++ []) r.2) else none) ∧
  (∀ (l0 l1 : Option Value) (v : Int32) (σ : dS), den mX5_closeSide 21 [l0, l1] [.int v] σ = if v = 0 ∨ v = 1 then some (some (.int v), σ) else none) ∧
  (∀ (l1 : Option Value) (x : Nat) (st : List Value) (σ : dS), den mX5_closeSide 22 [some (.ref x), l1] st σ = den mX5_closeSide 23 [some (.ref x), l1] (.ref x :: st) σ) ∧
  (∀ (l0 l1 : Option Value) (q : Nat) (st : List Value) (σ : dS), den mX5_closeSide 23 [l0, l1] (.ref q :: st) σ = (dget σ q 4 2).bind fun v => den mX5_closeSide 26 [l0, l1] (v :: st) σ) ∧
  (∀ (l1 : Option Value) (x : Nat) (st : List Value) (σ : dS), den mX5_closeSide 26 [some (.ref x), l1] st σ = den mX5_closeSide 27 [some (.ref x), l1] (.ref x :: st) σ) ∧
  (∀ (l0 l1 : Option Value) (q : Nat) (st : List Value) (σ : dS), den mX5_closeSide 27 [l0, l1] (.ref q :: st) σ = (dget σ q 4 4).bind fun v => den mX5_closeSide 30 [l0, l1] (v :: st) σ) ∧
  (∀ (l0 l1 : Option Value) (st : List Value) (σ : dS), den mX5_closeSide 30 [l0, l1] st σ = den mX5_closeSide 31 [l0, l1] (.int (nI 1) :: st) σ) ∧
  (∀ (l0 l1 : Option Value) (x y : Int32) (st : List Value) (σ : dS), den mX5_closeSide 31 [l0, l1] (.int y :: .int x :: st) σ = den mX5_closeSide 32 [l0, l1] (.int (x - y) :: st) σ) ∧
  (∀ (l0 l1 : Option Value) (q : Nat) (i : Int32) (st : List Value) (σ : dS), den mX5_closeSide 32 [l0, l1] (.int i :: .ref q :: st) σ = if q ≤ dN then (dald σ q 0 i).bind (fun v => den mX5_closeSide 33 [l0, l1] (.int v :: st) σ) else none) ∧
  (∀ (l1 : Option Value) (x : Int32) (y : Nat) (st : List Value) (σ : dS), den mX5_closeSide 33 [some (.ref y), l1] (.int x :: st) σ = den mX5_closeSide 34 [some (.ref y), some (.int x)] st σ) ∧
  (∀ (l0 : Option Value) (x : Int32) (st : List Value) (σ : dS), den mX5_closeSide 34 [l0, some (.int x)] st σ = den mX5_closeSide 35 [l0, some (.int x)] (.int x :: st) σ) ∧
  (∀ (l0 l1 : Option Value) (a0 : Int32) (σ : dS), den mX5_closeSide 35 [l0, l1] [.int a0] σ = (dcall mX3_isYes [.int a0] σ).bind fun r => den mX5_closeSide 38 [l0, l1] (r.1.toList ++ []) r.2) ∧
  (∀ (l0 l1 : Option Value) (x : Int32) (st : List Value) (σ : dS), den mX5_closeSide 38 [l0, l1] (.int x :: st) σ = if x = 0 then den mX5_closeSide 62 [l0, l1] st σ else den mX5_closeSide 41 [l0, l1] st σ) ∧
  (∀ (l1 : Option Value) (x : Nat) (st : List Value) (σ : dS), den mX5_closeSide 41 [some (.ref x), l1] st σ = den mX5_closeSide 42 [some (.ref x), l1] (.ref x :: st) σ) ∧
  (∀ (l0 l1 : Option Value) (q : Nat) (st : List Value) (σ : dS), den mX5_closeSide 42 [l0, l1] (.ref q :: st) σ = (dget σ q 4 2).bind fun v => den mX5_closeSide 45 [l0, l1] (v :: st) σ) ∧
  (∀ (l1 : Option Value) (x : Nat) (st : List Value) (σ : dS), den mX5_closeSide 45 [some (.ref x), l1] st σ = den mX5_closeSide 46 [some (.ref x), l1] (.ref x :: st) σ) ∧
  (∀ (l0 l1 : Option Value) (q : Nat) (st : List Value) (σ : dS), den mX5_closeSide 46 [l0, l1] (.ref q :: st) σ = (dget σ q 4 4).bind fun v => den mX5_closeSide 49 [l0, l1] (v :: st) σ) ∧
  (∀ (l0 l1 : Option Value) (st : List Value) (σ : dS), den mX5_closeSide 49 [l0, l1] st σ = den mX5_closeSide 50 [l0, l1] (.int (nI 1) :: st) σ) ∧
  (∀ (l0 l1 : Option Value) (x y : Int32) (st : List Value) (σ : dS), den mX5_closeSide 50 [l0, l1] (.int y :: .int x :: st) σ = den mX5_closeSide 51 [l0, l1] (.int (x - y) :: st) σ) ∧
  (∀ (l0 : Option Value) (x : Int32) (st : List Value) (σ : dS), den mX5_closeSide 51 [l0, some (.int x)] st σ = den mX5_closeSide 52 [l0, some (.int x)] (.int x :: st) σ) ∧
  (∀ (l0 l1 : Option Value) (st : List Value) (σ : dS), den mX5_closeSide 52 [l0, l1] st σ = den mX5_closeSide 53 [l0, l1] (.int (nI 1) :: st) σ) ∧
  (∀ (l0 l1 : Option Value) (x y : Int32) (st : List Value) (σ : dS), den mX5_closeSide 53 [l0, l1] (.int y :: .int x :: st) σ = den mX5_closeSide 54 [l0, l1] (.int (x + y) :: st) σ) ∧
  (∀ (l0 l1 : Option Value) (q : Nat) (i x : Int32) (st : List Value) (σ : dS), den mX5_closeSide 54 [l0, l1] (.int x :: .int i :: .ref q :: st) σ = (dast σ q 0 i x).bind fun τ => den mX5_closeSide 55 [l0, l1] st τ) ∧
  (∀ (l1 : Option Value) (x : Nat) (st : List Value) (σ : dS), den mX5_closeSide 55 [some (.ref x), l1] st σ = den mX5_closeSide 56 [some (.ref x), l1] (.ref x :: st) σ) ∧
  (∀ (l0 l1 : Option Value) (st : List Value) (σ : dS), den mX5_closeSide 56 [l0, l1] st σ = den mX5_closeSide 58 [l0, l1] (.int (nI 123) :: st) σ) ∧
  (∀ (l0 l1 : Option Value) (a0 : Int32) (q : Nat) (σ : dS), den mX5_closeSide 58 [l0, l1] [.int a0, .ref q] σ = if disO σ q 4 = true then ((dcall mX5_takeSign [.ref q, .int a0] σ).bind fun r => den mX5_closeSide 61 [l0, l1] (r.1.toList ++ []) r.2) else none) ∧
  (∀ (l0 l1 : Option Value) (v : Int32) (σ : dS), den mX5_closeSide 61 [l0, l1] [.int v] σ = if v = 0 ∨ v = 1 then some (some (.int v), σ) else none) ∧
  (∀ (l1 : Option Value) (x : Nat) (st : List Value) (σ : dS), den mX5_closeSide 62 [some (.ref x), l1] st σ = den mX5_closeSide 63 [some (.ref x), l1] (.ref x :: st) σ) ∧
  (∀ (l0 l1 : Option Value) (x : Nat) (st : List Value) (σ : dS), den mX5_closeSide 63 [l0, l1] (.ref x :: st) σ = den mX5_closeSide 64 [l0, l1] (.ref x :: .ref x :: st) σ) ∧
  (∀ (l0 l1 : Option Value) (q : Nat) (st : List Value) (σ : dS), den mX5_closeSide 64 [l0, l1] (.ref q :: st) σ = (dget σ q 4 4).bind fun v => den mX5_closeSide 67 [l0, l1] (v :: st) σ) ∧
  (∀ (l0 l1 : Option Value) (st : List Value) (σ : dS), den mX5_closeSide 67 [l0, l1] st σ = den mX5_closeSide 68 [l0, l1] (.int (nI 1) :: st) σ) :=
  ⟨fun l1 x st σ => dn_aload_n eX5_closeSide dX5_closeSide_0 rfl,
  fun l0 l1 q st σ => dn_getfield (f := (4, 5, 152)) eX5_closeSide dX5_closeSide_1 (by decide +kernel),
  fun l0 l1 st σ => dn_bipush eX5_closeSide dX5_closeSide_4 kc_bipush_125,
  fun l0 l1 x y st σ => dn_icmp_ne eX5_closeSide dX5_closeSide_6 (by decide),
  fun l1 x st σ => dn_aload_n eX5_closeSide dX5_closeSide_9 rfl,
  fun l0 l1 q st σ => dn_getfield (f := (4, 4, 151)) eX5_closeSide dX5_closeSide_10 (by decide +kernel),
  fun l0 l1 x st σ => dn_if_ne eX5_closeSide dX5_closeSide_13 (by decide),
  fun l1 x st σ => dn_aload_n eX5_closeSide dX5_closeSide_16 rfl,
  fun l0 l1 st σ => dn_iconst eX5_closeSide dX5_closeSide_17 kc_iconst_2,
  fun l0 l1 a0 q σ => rX5_closeSide_18 l0 l1 a0 q σ,
  fun l0 l1 v σ => dn_zreturn eX5_closeSide dX5_closeSide_21 rfl,
  fun l1 x st σ => dn_aload_n eX5_closeSide dX5_closeSide_22 rfl,
  fun l0 l1 q st σ => dn_getfield (f := (4, 2, 148)) eX5_closeSide dX5_closeSide_23 (by decide +kernel),
  fun l1 x st σ => dn_aload_n eX5_closeSide dX5_closeSide_26 rfl,
  fun l0 l1 q st σ => dn_getfield (f := (4, 4, 151)) eX5_closeSide dX5_closeSide_27 (by decide +kernel),
  fun l0 l1 st σ => dn_iconst eX5_closeSide dX5_closeSide_30 kc_iconst_1,
  fun l0 l1 x y st σ => dn_isub eX5_closeSide dX5_closeSide_31,
  fun l0 l1 q i st σ => dn_iaload eX5_closeSide dX5_closeSide_32,
  fun l1 x y st σ => dn_istore_n eX5_closeSide dX5_closeSide_33 rfl,
  fun l0 x st σ => dn_iload_n eX5_closeSide dX5_closeSide_34 rfl,
  fun l0 l1 a0 σ => dn_callS (e := (1, 34, 416)) (as := [.int a0]) (rest := []) eX5_closeSide dX5_closeSide_35 (by decide +kernel) (Or.inl rfl) (by decide +kernel) rfl (dcat_le rfl) (dlen_le rfl) rfl,
  fun l0 l1 x st σ => dn_if_eq eX5_closeSide dX5_closeSide_38 (by decide),
  fun l1 x st σ => dn_aload_n eX5_closeSide dX5_closeSide_41 rfl,
  fun l0 l1 q st σ => dn_getfield (f := (4, 2, 148)) eX5_closeSide dX5_closeSide_42 (by decide +kernel),
  fun l1 x st σ => dn_aload_n eX5_closeSide dX5_closeSide_45 rfl,
  fun l0 l1 q st σ => dn_getfield (f := (4, 4, 151)) eX5_closeSide dX5_closeSide_46 (by decide +kernel),
  fun l0 l1 st σ => dn_iconst eX5_closeSide dX5_closeSide_49 kc_iconst_1,
  fun l0 l1 x y st σ => dn_isub eX5_closeSide dX5_closeSide_50,
  fun l0 x st σ => dn_iload_n eX5_closeSide dX5_closeSide_51 rfl,
  fun l0 l1 st σ => dn_iconst eX5_closeSide dX5_closeSide_52 kc_iconst_1,
  fun l0 l1 x y st σ => dn_iadd eX5_closeSide dX5_closeSide_53,
  fun l0 l1 q i x st σ => dn_iastore eX5_closeSide dX5_closeSide_54,
  fun l1 x st σ => dn_aload_n eX5_closeSide dX5_closeSide_55 rfl,
  fun l0 l1 st σ => dn_bipush eX5_closeSide dX5_closeSide_56 kc_bipush_123,
  fun l0 l1 a0 q σ => rX5_closeSide_58 l0 l1 a0 q σ,
  fun l0 l1 v σ => dn_zreturn eX5_closeSide dX5_closeSide_61 rfl,
  fun l1 x st σ => dn_aload_n eX5_closeSide dX5_closeSide_62 rfl,
  fun l0 l1 x st σ => dn_dup eX5_closeSide dX5_closeSide_63 rfl,
  fun l0 l1 q st σ => dn_getfield (f := (4, 4, 151)) eX5_closeSide dX5_closeSide_64 (by decide +kernel),
  fun l0 l1 st σ => dn_iconst eX5_closeSide dX5_closeSide_67 kc_iconst_1⟩
set_option maxRecDepth 20000 in
theorem SX5_closeSide_1 : (∀ (l0 l1 : Option Value) (x y : Int32) (st : List Value) (σ : dS), den mX5_closeSide 68 [l0, l1] (.int y :: .int x :: st) σ = den mX5_closeSide 69 [l0, l1] (.int (x - y) :: st) σ) ∧
  (∀ (l0 l1 : Option Value) (x : Int32) (q : Nat) (st : List Value) (σ : dS), den mX5_closeSide 69 [l0, l1] (.int x :: .ref q :: st) σ = (dput σ q 4 4 (.int x)).bind fun τ => den mX5_closeSide 72 [l0, l1] st τ) ∧
  (∀ (l0 l1 : Option Value) (st : List Value) (σ : dS), den mX5_closeSide 72 [l0, l1] st σ = den mX5_closeSide 73 [l0, l1] (.int (nI 1) :: st) σ) ∧
  (∀ (l0 l1 : Option Value) (v : Int32) (σ : dS), den mX5_closeSide 73 [l0, l1] [.int v] σ = if v = 0 ∨ v = 1 then some (some (.int v), σ) else none) :=
  ⟨fun l0 l1 x y st σ => dn_isub eX5_closeSide dX5_closeSide_68,
  fun l0 l1 x q st σ => dn_putfield (f := (4, 4, 151)) (ty := .int) eX5_closeSide dX5_closeSide_69 (by decide +kernel) (by decide +kernel) rfl,
  fun l0 l1 st σ => dn_iconst eX5_closeSide dX5_closeSide_72 kc_iconst_1,
  fun l0 l1 v σ => dn_zreturn eX5_closeSide dX5_closeSide_73 rfl⟩
theorem CX5_nameIs (a0 : Nat) (a1 : Nat) (σ : dS) : dcall mX5_nameIs [.ref a0, .ref a1] σ = den mX5_nameIs 0 [some (.ref a0), some (.ref a1), none] [] σ := dcall_den (by decide) rfl
theorem rX5_nameIs_10 (l0 l1 l2 : Option Value) (b0 : Int32) (q : Nat) (σ : dS) : den mX5_nameIs 10 [l0, l1, l2] [.ref q, .int b0] σ = if dN + 1 ≤ q ∧ q < dN + 7 then ((dcall mJ0_length_8abf5 [.ref q] σ).bind fun r => den mX5_nameIs 13 [l0, l1, l2] (r.1.toList ++ [.int b0]) r.2) else none := by
  by_cases h : dN + 1 ≤ q ∧ q < dN + 7
  · rw [if_pos h]; exact dn_callP (e := (3, 0, 335)) (as := []) (rest := [.int b0]) eX5_nameIs dX5_nameIs_10 (by decide +kernel) rfl (by decide +kernel) rfl (dcat_le rfl) (dlen_le rfl) rfl h
  · rw [if_neg h]; exact den_noP (e := (3, 0, 335)) (as := []) (rest := [.int b0]) eX5_nameIs dX5_nameIs_10 (by decide +kernel) rfl rfl rfl h
theorem hX5_nameIs_20 (l0 l1 : Option Value) (x : Int32) (st : List Value) (σ : dS) : den mX5_nameIs 20 [l0, l1, some (.int x)] st σ = den mX5_nameIs 21 [l0, l1, some (.int x)] (.int x :: st) σ := dn_iload_n eX5_nameIs dX5_nameIs_20 rfl
theorem rX5_nameIs_22 (l0 l1 l2 : Option Value) (b0 : Int32) (q : Nat) (σ : dS) : den mX5_nameIs 22 [l0, l1, l2] [.ref q, .int b0] σ = if dN + 1 ≤ q ∧ q < dN + 7 then ((dcall mJ0_length_8abf5 [.ref q] σ).bind fun r => den mX5_nameIs 25 [l0, l1, l2] (r.1.toList ++ [.int b0]) r.2) else none := by
  by_cases h : dN + 1 ≤ q ∧ q < dN + 7
  · rw [if_pos h]; exact dn_callP (e := (3, 0, 335)) (as := []) (rest := [.int b0]) eX5_nameIs dX5_nameIs_22 (by decide +kernel) rfl (by decide +kernel) rfl (dcat_le rfl) (dlen_le rfl) rfl h
  · rw [if_neg h]; exact den_noP (e := (3, 0, 335)) (as := []) (rest := [.int b0]) eX5_nameIs dX5_nameIs_22 (by decide +kernel) rfl rfl rfl h
theorem rX5_nameIs_41 (l0 l1 l2 : Option Value) (a0 : Int32) (b0 : Int32) (q : Nat) (σ : dS) : den mX5_nameIs 41 [l0, l1, l2] [.int a0, .ref q, .int b0] σ = if dN + 1 ≤ q ∧ q < dN + 7 then ((dcall mJ0_charAt_5068e [.ref q, .int a0] σ).bind fun r => den mX5_nameIs 44 [l0, l1, l2] (r.1.toList ++ [.int b0]) r.2) else none := by
  by_cases h : dN + 1 ≤ q ∧ q < dN + 7
  · rw [if_pos h]; exact dn_callP (e := (3, 1, 345)) (as := [.int a0]) (rest := [.int b0]) eX5_nameIs dX5_nameIs_41 (by decide +kernel) rfl (by decide +kernel) rfl (dcat_le rfl) (dlen_le rfl) rfl h
  · rw [if_neg h]; exact den_noP (e := (3, 1, 345)) (as := [.int a0]) (rest := [.int b0]) eX5_nameIs dX5_nameIs_41 (by decide +kernel) rfl rfl rfl h
set_option maxRecDepth 20000 in
theorem SX5_nameIs : (∀ (l1 l2 : Option Value) (x : Nat) (st : List Value) (σ : dS), den mX5_nameIs 0 [some (.ref x), l1, l2] st σ = den mX5_nameIs 1 [some (.ref x), l1, l2] (.ref x :: st) σ) ∧
  (∀ (l0 l1 l2 : Option Value) (q : Nat) (st : List Value) (σ : dS), den mX5_nameIs 1 [l0, l1, l2] (.ref q :: st) σ = (dget σ q 4 7).bind fun v => den mX5_nameIs 4 [l0, l1, l2] (v :: st) σ) ∧
  (∀ (l1 l2 : Option Value) (x : Nat) (st : List Value) (σ : dS), den mX5_nameIs 4 [some (.ref x), l1, l2] st σ = den mX5_nameIs 5 [some (.ref x), l1, l2] (.ref x :: st) σ) ∧
  (∀ (l0 l1 l2 : Option Value) (q : Nat) (st : List Value) (σ : dS), den mX5_nameIs 5 [l0, l1, l2] (.ref q :: st) σ = (dget σ q 4 6).bind fun v => den mX5_nameIs 8 [l0, l1, l2] (v :: st) σ) ∧
  (∀ (l0 l1 l2 : Option Value) (x y : Int32) (st : List Value) (σ : dS), den mX5_nameIs 8 [l0, l1, l2] (.int y :: .int x :: st) σ = den mX5_nameIs 9 [l0, l1, l2] (.int (x - y) :: st) σ) ∧
  (∀ (l0 l2 : Option Value) (x : Nat) (st : List Value) (σ : dS), den mX5_nameIs 9 [l0, some (.ref x), l2] st σ = den mX5_nameIs 10 [l0, some (.ref x), l2] (.ref x :: st) σ) ∧
  (∀ (l0 l1 l2 : Option Value) (b0 : Int32) (q : Nat) (σ : dS), den mX5_nameIs 10 [l0, l1, l2] [.ref q, .int b0] σ = if dN + 1 ≤ q ∧ q < dN + 7 then ((dcall mJ0_length_8abf5 [.ref q] σ).bind fun r => den mX5_nameIs 13 [l0, l1, l2] (r.1.toList ++ [.int b0]) r.2) else none) ∧
  (∀ (l0 l1 l2 : Option Value) (x y : Int32) (st : List Value) (σ : dS), den mX5_nameIs 13 [l0, l1, l2] (.int y :: .int x :: st) σ = if x = y then den mX5_nameIs 18 [l0, l1, l2] st σ else den mX5_nameIs 16 [l0, l1, l2] st σ) ∧
  (∀ (l0 l1 l2 : Option Value) (st : List Value) (σ : dS), den mX5_nameIs 16 [l0, l1, l2] st σ = den mX5_nameIs 17 [l0, l1, l2] (.int (nI 0) :: st) σ) ∧
  (∀ (l0 l1 l2 : Option Value) (v : Int32) (σ : dS), den mX5_nameIs 17 [l0, l1, l2] [.int v] σ = if v = 0 ∨ v = 1 then some (some (.int v), σ) else none) ∧
  (∀ (l0 l1 l2 : Option Value) (st : List Value) (σ : dS), den mX5_nameIs 18 [l0, l1, l2] st σ = den mX5_nameIs 19 [l0, l1, l2] (.int (nI 0) :: st) σ) ∧
  (∀ (l0 l2 : Option Value) (x : Int32) (y : Nat) (st : List Value) (σ : dS), den mX5_nameIs 19 [l0, some (.ref y), l2] (.int x :: st) σ = den mX5_nameIs 20 [l0, some (.ref y), some (.int x)] st σ) ∧
  (∀ (l0 l2 : Option Value) (x : Nat) (st : List Value) (σ : dS), den mX5_nameIs 21 [l0, some (.ref x), l2] st σ = den mX5_nameIs 22 [l0, some (.ref x), l2] (.ref x :: st) σ) ∧
  (∀ (l0 l1 l2 : Option Value) (b0 : Int32) (q : Nat) (σ : dS), den mX5_nameIs 22 [l0, l1, l2] [.ref q, .int b0] σ = if dN + 1 ≤ q ∧ q < dN + 7 then ((dcall mJ0_length_8abf5 [.ref q] σ).bind fun r => den mX5_nameIs 25 [l0, l1, l2] (r.1.toList ++ [.int b0]) r.2) else none) ∧
  (∀ (l0 l1 l2 : Option Value) (x y : Int32) (st : List Value) (σ : dS), den mX5_nameIs 25 [l0, l1, l2] (.int y :: .int x :: st) σ = if x < y then den mX5_nameIs 28 [l0, l1, l2] st σ else den mX5_nameIs 55 [l0, l1, l2] st σ) ∧
  (∀ (l1 l2 : Option Value) (x : Nat) (st : List Value) (σ : dS), den mX5_nameIs 28 [some (.ref x), l1, l2] st σ = den mX5_nameIs 29 [some (.ref x), l1, l2] (.ref x :: st) σ) ∧
  (∀ (l0 l1 l2 : Option Value) (q : Nat) (st : List Value) (σ : dS), den mX5_nameIs 29 [l0, l1, l2] (.ref q :: st) σ = (dget σ q 4 1).bind fun v => den mX5_nameIs 32 [l0, l1, l2] (v :: st) σ) ∧
  (∀ (l1 l2 : Option Value) (x : Nat) (st : List Value) (σ : dS), den mX5_nameIs 32 [some (.ref x), l1, l2] st σ = den mX5_nameIs 33 [some (.ref x), l1, l2] (.ref x :: st) σ) ∧
  (∀ (l0 l1 l2 : Option Value) (q : Nat) (st : List Value) (σ : dS), den mX5_nameIs 33 [l0, l1, l2] (.ref q :: st) σ = (dget σ q 4 6).bind fun v => den mX5_nameIs 36 [l0, l1, l2] (v :: st) σ) ∧
  (∀ (l0 l1 : Option Value) (x : Int32) (st : List Value) (σ : dS), den mX5_nameIs 36 [l0, l1, some (.int x)] st σ = den mX5_nameIs 37 [l0, l1, some (.int x)] (.int x :: st) σ) ∧
  (∀ (l0 l1 l2 : Option Value) (x y : Int32) (st : List Value) (σ : dS), den mX5_nameIs 37 [l0, l1, l2] (.int y :: .int x :: st) σ = den mX5_nameIs 38 [l0, l1, l2] (.int (x + y) :: st) σ) ∧
  (∀ (l0 l1 l2 : Option Value) (q : Nat) (i : Int32) (st : List Value) (σ : dS), den mX5_nameIs 38 [l0, l1, l2] (.int i :: .ref q :: st) σ = (dbld σ q i).bind fun v => den mX5_nameIs 39 [l0, l1, l2] (.int v :: st) σ) ∧
  (∀ (l0 l2 : Option Value) (x : Nat) (st : List Value) (σ : dS), den mX5_nameIs 39 [l0, some (.ref x), l2] st σ = den mX5_nameIs 40 [l0, some (.ref x), l2] (.ref x :: st) σ) ∧
  (∀ (l0 l1 : Option Value) (x : Int32) (st : List Value) (σ : dS), den mX5_nameIs 40 [l0, l1, some (.int x)] st σ = den mX5_nameIs 41 [l0, l1, some (.int x)] (.int x :: st) σ) ∧
  (∀ (l0 l1 l2 : Option Value) (a0 : Int32) (b0 : Int32) (q : Nat) (σ : dS), den mX5_nameIs 41 [l0, l1, l2] [.int a0, .ref q, .int b0] σ = if dN + 1 ≤ q ∧ q < dN + 7 then ((dcall mJ0_charAt_5068e [.ref q, .int a0] σ).bind fun r => den mX5_nameIs 44 [l0, l1, l2] (r.1.toList ++ [.int b0]) r.2) else none) ∧
  (∀ (l0 l1 l2 : Option Value) (x y : Int32) (st : List Value) (σ : dS), den mX5_nameIs 44 [l0, l1, l2] (.int y :: .int x :: st) σ = if x = y then den mX5_nameIs 49 [l0, l1, l2] st σ else den mX5_nameIs 47 [l0, l1, l2] st σ) ∧
  (∀ (l0 l1 l2 : Option Value) (st : List Value) (σ : dS), den mX5_nameIs 47 [l0, l1, l2] st σ = den mX5_nameIs 48 [l0, l1, l2] (.int (nI 0) :: st) σ) ∧
  (∀ (l0 l1 l2 : Option Value) (v : Int32) (σ : dS), den mX5_nameIs 48 [l0, l1, l2] [.int v] σ = if v = 0 ∨ v = 1 then some (some (.int v), σ) else none) ∧
  (∀ (l0 : Option Value) (x : Int32) (y : Nat) (st : List Value) (σ : dS), den mX5_nameIs 49 [l0, some (.ref y), some (.int x)] st σ = den mX5_nameIs 52 [l0, some (.ref y), some (.int (x + nI 1))] st σ) ∧
  (∀ (l0 l1 l2 : Option Value) (st : List Value) (σ : dS), den mX5_nameIs 52 [l0, l1, l2] st σ = den mX5_nameIs 20 [l0, l1, l2] st σ) ∧
  (∀ (l0 l1 l2 : Option Value) (st : List Value) (σ : dS), den mX5_nameIs 55 [l0, l1, l2] st σ = den mX5_nameIs 56 [l0, l1, l2] (.int (nI 1) :: st) σ) ∧
  (∀ (l0 l1 l2 : Option Value) (v : Int32) (σ : dS), den mX5_nameIs 56 [l0, l1, l2] [.int v] σ = if v = 0 ∨ v = 1 then some (some (.int v), σ) else none) :=
  ⟨fun l1 l2 x st σ => dn_aload_n eX5_nameIs dX5_nameIs_0 rfl,
  fun l0 l1 l2 q st σ => dn_getfield (f := (4, 7, 154)) eX5_nameIs dX5_nameIs_1 (by decide +kernel),
  fun l1 l2 x st σ => dn_aload_n eX5_nameIs dX5_nameIs_4 rfl,
  fun l0 l1 l2 q st σ => dn_getfield (f := (4, 6, 153)) eX5_nameIs dX5_nameIs_5 (by decide +kernel),
  fun l0 l1 l2 x y st σ => dn_isub eX5_nameIs dX5_nameIs_8,
  fun l0 l2 x st σ => dn_aload_n eX5_nameIs dX5_nameIs_9 rfl,
  fun l0 l1 l2 b0 q σ => rX5_nameIs_10 l0 l1 l2 b0 q σ,
  fun l0 l1 l2 x y st σ => dn_icmp_eq eX5_nameIs dX5_nameIs_13 (by decide),
  fun l0 l1 l2 st σ => dn_iconst eX5_nameIs dX5_nameIs_16 kc_iconst_0,
  fun l0 l1 l2 v σ => dn_zreturn eX5_nameIs dX5_nameIs_17 rfl,
  fun l0 l1 l2 st σ => dn_iconst eX5_nameIs dX5_nameIs_18 kc_iconst_0,
  fun l0 l2 x y st σ => dn_istore_n eX5_nameIs dX5_nameIs_19 rfl,
  fun l0 l2 x st σ => dn_aload_n eX5_nameIs dX5_nameIs_21 rfl,
  fun l0 l1 l2 b0 q σ => rX5_nameIs_22 l0 l1 l2 b0 q σ,
  fun l0 l1 l2 x y st σ => dn_icmp_ge eX5_nameIs dX5_nameIs_25 (by decide),
  fun l1 l2 x st σ => dn_aload_n eX5_nameIs dX5_nameIs_28 rfl,
  fun l0 l1 l2 q st σ => dn_getfield (f := (4, 1, 146)) eX5_nameIs dX5_nameIs_29 (by decide +kernel),
  fun l1 l2 x st σ => dn_aload_n eX5_nameIs dX5_nameIs_32 rfl,
  fun l0 l1 l2 q st σ => dn_getfield (f := (4, 6, 153)) eX5_nameIs dX5_nameIs_33 (by decide +kernel),
  fun l0 l1 x st σ => dn_iload_n eX5_nameIs dX5_nameIs_36 rfl,
  fun l0 l1 l2 x y st σ => dn_iadd eX5_nameIs dX5_nameIs_37,
  fun l0 l1 l2 q i st σ => dn_baload eX5_nameIs dX5_nameIs_38,
  fun l0 l2 x st σ => dn_aload_n eX5_nameIs dX5_nameIs_39 rfl,
  fun l0 l1 x st σ => dn_iload_n eX5_nameIs dX5_nameIs_40 rfl,
  fun l0 l1 l2 a0 b0 q σ => rX5_nameIs_41 l0 l1 l2 a0 b0 q σ,
  fun l0 l1 l2 x y st σ => dn_icmp_eq eX5_nameIs dX5_nameIs_44 (by decide),
  fun l0 l1 l2 st σ => dn_iconst eX5_nameIs dX5_nameIs_47 kc_iconst_0,
  fun l0 l1 l2 v σ => dn_zreturn eX5_nameIs dX5_nameIs_48 rfl,
  fun l0 x y st σ => dn_iinc (v := nI 1) eX5_nameIs dX5_nameIs_49 rfl kc_iconst_1 rfl,
  fun l0 l1 l2 st σ => dn_goto eX5_nameIs dX5_nameIs_52 (by decide),
  fun l0 l1 l2 st σ => dn_iconst eX5_nameIs dX5_nameIs_55 kc_iconst_1,
  fun l0 l1 l2 v σ => dn_zreturn eX5_nameIs dX5_nameIs_56 rfl⟩
theorem CX5_kindOfName (a0 : Nat) (σ : dS) : dcall mX5_kindOfName [.ref a0] σ = den mX5_kindOfName 0 [some (.ref a0)] [] σ := dcall_den (by decide) rfl
theorem rX5_kindOfName_3 (l0 : Option Value) (a0 : Nat) (q : Nat) (σ : dS) : den mX5_kindOfName 3 [l0] [.ref a0, .ref q] σ = if disO σ q 4 = true then ((dcall mX5_nameIs [.ref q, .ref a0] σ).bind fun r => den mX5_kindOfName 6 [l0] (r.1.toList ++ []) r.2) else none := by
  by_cases h : disO σ q 4 = true
  · rw [if_pos h]; exact dn_callV (e := (0, 61, 331)) (as := [.ref a0]) (rest := []) eX5_kindOfName dX5_kindOfName_3 (by decide +kernel) rfl (by decide +kernel) rfl (dcat_le rfl) (dlen_le rfl) rfl h
  · rw [if_neg h]; exact den_noV (e := (0, 61, 331)) (as := [.ref a0]) (rest := []) eX5_kindOfName dX5_kindOfName_3 (by decide +kernel) rfl rfl rfl h
theorem rX5_kindOfName_14 (l0 : Option Value) (a0 : Nat) (q : Nat) (σ : dS) : den mX5_kindOfName 14 [l0] [.ref a0, .ref q] σ = if disO σ q 4 = true then ((dcall mX5_nameIs [.ref q, .ref a0] σ).bind fun r => den mX5_kindOfName 17 [l0] (r.1.toList ++ []) r.2) else none := by
  by_cases h : disO σ q 4 = true
  · rw [if_pos h]; exact dn_callV (e := (0, 61, 331)) (as := [.ref a0]) (rest := []) eX5_kindOfName dX5_kindOfName_14 (by decide +kernel) rfl (by decide +kernel) rfl (dcat_le rfl) (dlen_le rfl) rfl h
  · rw [if_neg h]; exact den_noV (e := (0, 61, 331)) (as := [.ref a0]) (rest := []) eX5_kindOfName dX5_kindOfName_14 (by decide +kernel) rfl rfl rfl h
theorem rX5_kindOfName_25 (l0 : Option Value) (a0 : Nat) (q : Nat) (σ : dS) : den mX5_kindOfName 25 [l0] [.ref a0, .ref q] σ = if disO σ q 4 = true then ((dcall mX5_nameIs [.ref q, .ref a0] σ).bind fun r => den mX5_kindOfName 28 [l0] (r.1.toList ++ []) r.2) else none := by
  by_cases h : disO σ q 4 = true
  · rw [if_pos h]; exact dn_callV (e := (0, 61, 331)) (as := [.ref a0]) (rest := []) eX5_kindOfName dX5_kindOfName_25 (by decide +kernel) rfl (by decide +kernel) rfl (dcat_le rfl) (dlen_le rfl) rfl h
  · rw [if_neg h]; exact den_noV (e := (0, 61, 331)) (as := [.ref a0]) (rest := []) eX5_kindOfName dX5_kindOfName_25 (by decide +kernel) rfl rfl rfl h
theorem rX5_kindOfName_36 (l0 : Option Value) (a0 : Nat) (q : Nat) (σ : dS) : den mX5_kindOfName 36 [l0] [.ref a0, .ref q] σ = if disO σ q 4 = true then ((dcall mX5_nameIs [.ref q, .ref a0] σ).bind fun r => den mX5_kindOfName 39 [l0] (r.1.toList ++ []) r.2) else none := by
  by_cases h : disO σ q 4 = true
  · rw [if_pos h]; exact dn_callV (e := (0, 61, 331)) (as := [.ref a0]) (rest := []) eX5_kindOfName dX5_kindOfName_36 (by decide +kernel) rfl (by decide +kernel) rfl (dcat_le rfl) (dlen_le rfl) rfl h
  · rw [if_neg h]; exact den_noV (e := (0, 61, 331)) (as := [.ref a0]) (rest := []) eX5_kindOfName dX5_kindOfName_36 (by decide +kernel) rfl rfl rfl h
theorem rX5_kindOfName_47 (l0 : Option Value) (a0 : Nat) (q : Nat) (σ : dS) : den mX5_kindOfName 47 [l0] [.ref a0, .ref q] σ = if disO σ q 4 = true then ((dcall mX5_nameIs [.ref q, .ref a0] σ).bind fun r => den mX5_kindOfName 50 [l0] (r.1.toList ++ []) r.2) else none := by
  by_cases h : disO σ q 4 = true
  · rw [if_pos h]; exact dn_callV (e := (0, 61, 331)) (as := [.ref a0]) (rest := []) eX5_kindOfName dX5_kindOfName_47 (by decide +kernel) rfl (by decide +kernel) rfl (dcat_le rfl) (dlen_le rfl) rfl h
  · rw [if_neg h]; exact den_noV (e := (0, 61, 331)) (as := [.ref a0]) (rest := []) eX5_kindOfName dX5_kindOfName_47 (by decide +kernel) rfl rfl rfl h
theorem rX5_kindOfName_58 (l0 : Option Value) (a0 : Nat) (q : Nat) (σ : dS) : den mX5_kindOfName 58 [l0] [.ref a0, .ref q] σ = if disO σ q 4 = true then ((dcall mX5_nameIs [.ref q, .ref a0] σ).bind fun r => den mX5_kindOfName 61 [l0] (r.1.toList ++ []) r.2) else none := by
  by_cases h : disO σ q 4 = true
  · rw [if_pos h]; exact dn_callV (e := (0, 61, 331)) (as := [.ref a0]) (rest := []) eX5_kindOfName dX5_kindOfName_58 (by decide +kernel) rfl (by decide +kernel) rfl (dcat_le rfl) (dlen_le rfl) rfl h
  · rw [if_neg h]; exact den_noV (e := (0, 61, 331)) (as := [.ref a0]) (rest := []) eX5_kindOfName dX5_kindOfName_58 (by decide +kernel) rfl rfl rfl h
set_option maxRecDepth 20000 in
theorem SX5_kindOfName : (∀ (x : Nat) (st : List Value) (σ : dS), den mX5_kindOfName 0 [some (.ref x)] st σ = den mX5_kindOfName 1 [some (.ref x)] (.ref x :: st) σ) ∧
  (∀ (l0 : Option Value) (st : List Value) (σ : dS), den mX5_kindOfName 1 [l0] st σ = den mX5_kindOfName 3 [l0] (.ref (dN + 1 + 0) :: st) σ) ∧
  (∀ (l0 : Option Value) (a0 : Nat) (q : Nat) (σ : dS), den mX5_kindOfName 3 [l0] [.ref a0, .ref q] σ = if disO σ q 4 = true then ((dcall mX5_nameIs [.ref q, .ref a0] σ).bind fun r => den mX5_kindOfName 6 [l0] (r.1.toList ++ []) r.2) else none) ∧
  (∀ (l0 : Option Value) (x : Int32) (st : List Value) (σ : dS), den mX5_kindOfName 6 [l0] (.int x :: st) σ = if x = 0 then den mX5_kindOfName 11 [l0] st σ else den mX5_kindOfName 9 [l0] st σ) ∧
  (∀ (l0 : Option Value) (st : List Value) (σ : dS), den mX5_kindOfName 9 [l0] st σ = den mX5_kindOfName 10 [l0] (.int (nI 0) :: st) σ) ∧
  (∀ (l0 : Option Value) (v : Int32) (σ : dS), den mX5_kindOfName 10 [l0] [.int v] σ = some (some (.int v), σ)) ∧
  (∀ (x : Nat) (st : List Value) (σ : dS), den mX5_kindOfName 11 [some (.ref x)] st σ = den mX5_kindOfName 12 [some (.ref x)] (.ref x :: st) σ) ∧
  (∀ (l0 : Option Value) (st : List Value) (σ : dS), den mX5_kindOfName 12 [l0] st σ = den mX5_kindOfName 14 [l0] (.ref (dN + 1 + 1) :: st) σ) ∧
  (∀ (l0 : Option Value) (a0 : Nat) (q : Nat) (σ : dS), den mX5_kindOfName 14 [l0] [.ref a0, .ref q] σ = if disO σ q 4 = true then ((dcall mX5_nameIs [.ref q, .ref a0] σ).bind fun r => den mX5_kindOfName 17 [l0] (r.1.toList ++ []) r.2) else none) ∧
  (∀ (l0 : Option Value) (x : Int32) (st : List Value) (σ : dS), den mX5_kindOfName 17 [l0] (.int x :: st) σ = if x = 0 then den mX5_kindOfName 22 [l0] st σ else den mX5_kindOfName 20 [l0] st σ) ∧
  (∀ (l0 : Option Value) (st : List Value) (σ : dS), den mX5_kindOfName 20 [l0] st σ = den mX5_kindOfName 21 [l0] (.int (nI 1) :: st) σ) ∧
  (∀ (l0 : Option Value) (v : Int32) (σ : dS), den mX5_kindOfName 21 [l0] [.int v] σ = some (some (.int v), σ)) ∧
  (∀ (x : Nat) (st : List Value) (σ : dS), den mX5_kindOfName 22 [some (.ref x)] st σ = den mX5_kindOfName 23 [some (.ref x)] (.ref x :: st) σ) ∧
  (∀ (l0 : Option Value) (st : List Value) (σ : dS), den mX5_kindOfName 23 [l0] st σ = den mX5_kindOfName 25 [l0] (.ref (dN + 1 + 2) :: st) σ) ∧
  (∀ (l0 : Option Value) (a0 : Nat) (q : Nat) (σ : dS), den mX5_kindOfName 25 [l0] [.ref a0, .ref q] σ = if disO σ q 4 = true then ((dcall mX5_nameIs [.ref q, .ref a0] σ).bind fun r => den mX5_kindOfName 28 [l0] (r.1.toList ++ []) r.2) else none) ∧
  (∀ (l0 : Option Value) (x : Int32) (st : List Value) (σ : dS), den mX5_kindOfName 28 [l0] (.int x :: st) σ = if x = 0 then den mX5_kindOfName 33 [l0] st σ else den mX5_kindOfName 31 [l0] st σ) ∧
  (∀ (l0 : Option Value) (st : List Value) (σ : dS), den mX5_kindOfName 31 [l0] st σ = den mX5_kindOfName 32 [l0] (.int (nI 2) :: st) σ) ∧
  (∀ (l0 : Option Value) (v : Int32) (σ : dS), den mX5_kindOfName 32 [l0] [.int v] σ = some (some (.int v), σ)) ∧
  (∀ (x : Nat) (st : List Value) (σ : dS), den mX5_kindOfName 33 [some (.ref x)] st σ = den mX5_kindOfName 34 [some (.ref x)] (.ref x :: st) σ) ∧
  (∀ (l0 : Option Value) (st : List Value) (σ : dS), den mX5_kindOfName 34 [l0] st σ = den mX5_kindOfName 36 [l0] (.ref (dN + 1 + 3) :: st) σ) ∧
  (∀ (l0 : Option Value) (a0 : Nat) (q : Nat) (σ : dS), den mX5_kindOfName 36 [l0] [.ref a0, .ref q] σ = if disO σ q 4 = true then ((dcall mX5_nameIs [.ref q, .ref a0] σ).bind fun r => den mX5_kindOfName 39 [l0] (r.1.toList ++ []) r.2) else none) ∧
  (∀ (l0 : Option Value) (x : Int32) (st : List Value) (σ : dS), den mX5_kindOfName 39 [l0] (.int x :: st) σ = if x = 0 then den mX5_kindOfName 44 [l0] st σ else den mX5_kindOfName 42 [l0] st σ) ∧
  (∀ (l0 : Option Value) (st : List Value) (σ : dS), den mX5_kindOfName 42 [l0] st σ = den mX5_kindOfName 43 [l0] (.int (nI 3) :: st) σ) ∧
  (∀ (l0 : Option Value) (v : Int32) (σ : dS), den mX5_kindOfName 43 [l0] [.int v] σ = some (some (.int v), σ)) ∧
  (∀ (x : Nat) (st : List Value) (σ : dS), den mX5_kindOfName 44 [some (.ref x)] st σ = den mX5_kindOfName 45 [some (.ref x)] (.ref x :: st) σ) ∧
  (∀ (l0 : Option Value) (st : List Value) (σ : dS), den mX5_kindOfName 45 [l0] st σ = den mX5_kindOfName 47 [l0] (.ref (dN + 1 + 4) :: st) σ) ∧
  (∀ (l0 : Option Value) (a0 : Nat) (q : Nat) (σ : dS), den mX5_kindOfName 47 [l0] [.ref a0, .ref q] σ = if disO σ q 4 = true then ((dcall mX5_nameIs [.ref q, .ref a0] σ).bind fun r => den mX5_kindOfName 50 [l0] (r.1.toList ++ []) r.2) else none) ∧
  (∀ (l0 : Option Value) (x : Int32) (st : List Value) (σ : dS), den mX5_kindOfName 50 [l0] (.int x :: st) σ = if x = 0 then den mX5_kindOfName 55 [l0] st σ else den mX5_kindOfName 53 [l0] st σ) ∧
  (∀ (l0 : Option Value) (st : List Value) (σ : dS), den mX5_kindOfName 53 [l0] st σ = den mX5_kindOfName 54 [l0] (.int (nI 4) :: st) σ) ∧
  (∀ (l0 : Option Value) (v : Int32) (σ : dS), den mX5_kindOfName 54 [l0] [.int v] σ = some (some (.int v), σ)) ∧
  (∀ (x : Nat) (st : List Value) (σ : dS), den mX5_kindOfName 55 [some (.ref x)] st σ = den mX5_kindOfName 56 [some (.ref x)] (.ref x :: st) σ) ∧
  (∀ (l0 : Option Value) (st : List Value) (σ : dS), den mX5_kindOfName 56 [l0] st σ = den mX5_kindOfName 58 [l0] (.ref (dN + 1 + 5) :: st) σ) ∧
  (∀ (l0 : Option Value) (a0 : Nat) (q : Nat) (σ : dS), den mX5_kindOfName 58 [l0] [.ref a0, .ref q] σ = if disO σ q 4 = true then ((dcall mX5_nameIs [.ref q, .ref a0] σ).bind fun r => den mX5_kindOfName 61 [l0] (r.1.toList ++ []) r.2) else none) ∧
  (∀ (l0 : Option Value) (x : Int32) (st : List Value) (σ : dS), den mX5_kindOfName 61 [l0] (.int x :: st) σ = if x = 0 then den mX5_kindOfName 68 [l0] st σ else den mX5_kindOfName 64 [l0] st σ) ∧
  (∀ (l0 : Option Value) (st : List Value) (σ : dS), den mX5_kindOfName 64 [l0] st σ = den mX5_kindOfName 65 [l0] (.int (nI 5) :: st) σ) ∧
  (∀ (l0 : Option Value) (st : List Value) (σ : dS), den mX5_kindOfName 65 [l0] st σ = den mX5_kindOfName 70 [l0] st σ) ∧
  (∀ (l0 : Option Value) (st : List Value) (σ : dS), den mX5_kindOfName 68 [l0] st σ = den mX5_kindOfName 70 [l0] (.int ((-4)) :: st) σ) ∧
  (∀ (l0 : Option Value) (v : Int32) (σ : dS), den mX5_kindOfName 70 [l0] [.int v] σ = some (some (.int v), σ)) :=
  ⟨fun x st σ => dn_aload_n eX5_kindOfName dX5_kindOfName_0 rfl,
  fun l0 st σ => dn_ldcS eX5_kindOfName dX5_kindOfName_1 rfl (by decide +kernel),
  fun l0 a0 q σ => rX5_kindOfName_3 l0 a0 q σ,
  fun l0 x st σ => dn_if_eq eX5_kindOfName dX5_kindOfName_6 (by decide),
  fun l0 st σ => dn_iconst eX5_kindOfName dX5_kindOfName_9 kc_iconst_0,
  fun l0 v σ => dn_ireturn eX5_kindOfName dX5_kindOfName_10 rfl,
  fun x st σ => dn_aload_n eX5_kindOfName dX5_kindOfName_11 rfl,
  fun l0 st σ => dn_ldcS eX5_kindOfName dX5_kindOfName_12 rfl (by decide +kernel),
  fun l0 a0 q σ => rX5_kindOfName_14 l0 a0 q σ,
  fun l0 x st σ => dn_if_eq eX5_kindOfName dX5_kindOfName_17 (by decide),
  fun l0 st σ => dn_iconst eX5_kindOfName dX5_kindOfName_20 kc_iconst_1,
  fun l0 v σ => dn_ireturn eX5_kindOfName dX5_kindOfName_21 rfl,
  fun x st σ => dn_aload_n eX5_kindOfName dX5_kindOfName_22 rfl,
  fun l0 st σ => dn_ldcS eX5_kindOfName dX5_kindOfName_23 rfl (by decide +kernel),
  fun l0 a0 q σ => rX5_kindOfName_25 l0 a0 q σ,
  fun l0 x st σ => dn_if_eq eX5_kindOfName dX5_kindOfName_28 (by decide),
  fun l0 st σ => dn_iconst eX5_kindOfName dX5_kindOfName_31 kc_iconst_2,
  fun l0 v σ => dn_ireturn eX5_kindOfName dX5_kindOfName_32 rfl,
  fun x st σ => dn_aload_n eX5_kindOfName dX5_kindOfName_33 rfl,
  fun l0 st σ => dn_ldcS eX5_kindOfName dX5_kindOfName_34 rfl (by decide +kernel),
  fun l0 a0 q σ => rX5_kindOfName_36 l0 a0 q σ,
  fun l0 x st σ => dn_if_eq eX5_kindOfName dX5_kindOfName_39 (by decide),
  fun l0 st σ => dn_iconst eX5_kindOfName dX5_kindOfName_42 kc_iconst_3,
  fun l0 v σ => dn_ireturn eX5_kindOfName dX5_kindOfName_43 rfl,
  fun x st σ => dn_aload_n eX5_kindOfName dX5_kindOfName_44 rfl,
  fun l0 st σ => dn_ldcS eX5_kindOfName dX5_kindOfName_45 rfl (by decide +kernel),
  fun l0 a0 q σ => rX5_kindOfName_47 l0 a0 q σ,
  fun l0 x st σ => dn_if_eq eX5_kindOfName dX5_kindOfName_50 (by decide),
  fun l0 st σ => dn_iconst eX5_kindOfName dX5_kindOfName_53 kc_iconst_4,
  fun l0 v σ => dn_ireturn eX5_kindOfName dX5_kindOfName_54 rfl,
  fun x st σ => dn_aload_n eX5_kindOfName dX5_kindOfName_55 rfl,
  fun l0 st σ => dn_ldcS eX5_kindOfName dX5_kindOfName_56 rfl (by decide +kernel),
  fun l0 a0 q σ => rX5_kindOfName_58 l0 a0 q σ,
  fun l0 x st σ => dn_if_eq eX5_kindOfName dX5_kindOfName_61 (by decide),
  fun l0 st σ => dn_iconst eX5_kindOfName dX5_kindOfName_64 kc_iconst_5,
  fun l0 st σ => dn_goto eX5_kindOfName dX5_kindOfName_65 (by decide),
  fun l0 st σ => dn_bipush eX5_kindOfName dX5_kindOfName_68 kc_bipush_m4,
  fun l0 v σ => dn_ireturn eX5_kindOfName dX5_kindOfName_70 rfl⟩
theorem CX5_takeNumber (a0 : Nat) (a1 : Int32) (σ : dS) : dcall mX5_takeNumber [.ref a0, .int a1] σ = den mX5_takeNumber 0 [some (.ref a0), some (.int a1), none, none] [] σ := dcall_den (by decide) rfl
theorem rX5_takeNumber_1 (l0 l1 l2 l3 : Option Value) (q : Nat) (σ : dS) : den mX5_takeNumber 1 [l0, l1, l2, l3] [.ref q] σ = if disO σ q 4 = true then ((dcall mX5_readToken [.ref q] σ).bind fun r => den mX5_takeNumber 4 [l0, l1, l2, l3] (r.1.toList ++ []) r.2) else none := by
  by_cases h : disO σ q 4 = true
  · rw [if_pos h]; exact dn_callV (e := (0, 58, 310)) (as := []) (rest := []) eX5_takeNumber dX5_takeNumber_1 (by decide +kernel) rfl (by decide +kernel) rfl (dcat_le rfl) (dlen_le rfl) rfl h
  · rw [if_neg h]; exact den_noV (e := (0, 58, 310)) (as := []) (rest := []) eX5_takeNumber dX5_takeNumber_1 (by decide +kernel) rfl rfl rfl h
theorem rX5_takeNumber_20 (l0 l1 l2 l3 : Option Value) (a0 : Int32) (q : Nat) (σ : dS) : den mX5_takeNumber 20 [l0, l1, l2, l3] [.int a0, .ref q] σ = if disO σ q 4 = true then ((dcall mX5_refuse [.ref q, .int a0] σ).bind fun r => den mX5_takeNumber 23 [l0, l1, l2, l3] (r.1.toList ++ []) r.2) else none := by
  by_cases h : disO σ q 4 = true
  · rw [if_pos h]; exact dn_callV (e := (0, 56, 318)) (as := [.int a0]) (rest := []) eX5_takeNumber dX5_takeNumber_20 (by decide +kernel) rfl (by decide +kernel) rfl (dcat_le rfl) (dlen_le rfl) rfl h
  · rw [if_neg h]; exact den_noV (e := (0, 56, 318)) (as := [.int a0]) (rest := []) eX5_takeNumber dX5_takeNumber_20 (by decide +kernel) rfl rfl rfl h
theorem hX5_takeNumber_34 (l0 l1 l2 : Option Value) (x : Int32) (st : List Value) (σ : dS) : den mX5_takeNumber 34 [l0, l1, l2, some (.int x)] st σ = den mX5_takeNumber 35 [l0, l1, l2, some (.int x)] (.int x :: st) σ := dn_iload_n eX5_takeNumber dX5_takeNumber_34 rfl
theorem rX5_takeNumber_70 (l0 l1 l2 l3 : Option Value) (a0 : Int32) (q : Nat) (σ : dS) : den mX5_takeNumber 70 [l0, l1, l2, l3] [.int a0, .ref q] σ = if disO σ q 4 = true then ((dcall mX5_refuse [.ref q, .int a0] σ).bind fun r => den mX5_takeNumber 73 [l0, l1, l2, l3] (r.1.toList ++ []) r.2) else none := by
  by_cases h : disO σ q 4 = true
  · rw [if_pos h]; exact dn_callV (e := (0, 56, 318)) (as := [.int a0]) (rest := []) eX5_takeNumber dX5_takeNumber_70 (by decide +kernel) rfl (by decide +kernel) rfl (dcat_le rfl) (dlen_le rfl) rfl h
  · rw [if_neg h]; exact den_noV (e := (0, 56, 318)) (as := [.int a0]) (rest := []) eX5_takeNumber dX5_takeNumber_70 (by decide +kernel) rfl rfl rfl h
set_option maxRecDepth 20000 in
theorem SX5_takeNumber_0 : (∀ (l1 l2 l3 : Option Value) (x : Nat) (st : List Value) (σ : dS), den mX5_takeNumber 0 [some (.ref x), l1, l2, l3] st σ = den mX5_takeNumber 1 [some (.ref x), l1, l2, l3] (.ref x :: st) σ) ∧
  (∀ (l0 l1 l2 l3 : Option Value) (q : Nat) (σ : dS), den mX5_takeNumber 1 [l0, l1, l2, l3] [.ref q] σ = if disO σ q 4 = true then ((dcall mX5_readToken [.ref q] σ).bind fun r => den mX5_takeNumber 4 [l0, l1, l2, l3] (r.1.toList ++ []) r.2) else none) ∧
  (∀ (l0 l1 l2 l3 : Option Value) (x : Int32) (st : List Value) (σ : dS), den mX5_takeNumber 4 [l0, l1, l2, l3] (.int x :: st) σ = if x = 0 then den mX5_takeNumber 7 [l0, l1, l2, l3] st σ else den mX5_takeNumber 10 [l0, l1, l2, l3] st σ) ∧
  (∀ (l0 l1 l2 l3 : Option Value) (st : List Value) (σ : dS), den mX5_takeNumber 7 [l0, l1, l2, l3] st σ = den mX5_takeNumber 9 [l0, l1, l2, l3] (.int ((-4)) :: st) σ) ∧
  (∀ (l0 l1 l2 l3 : Option Value) (v : Int32) (σ : dS), den mX5_takeNumber 9 [l0, l1, l2, l3] [.int v] σ = some (some (.int v), σ)) ∧
  (∀ (l1 l2 l3 : Option Value) (x : Nat) (st : List Value) (σ : dS), den mX5_takeNumber 10 [some (.ref x), l1, l2, l3] st σ = den mX5_takeNumber 11 [some (.ref x), l1, l2, l3] (.ref x :: st) σ) ∧
  (∀ (l0 l1 l2 l3 : Option Value) (q : Nat) (st : List Value) (σ : dS), den mX5_takeNumber 11 [l0, l1, l2, l3] (.ref q :: st) σ = (dget σ q 4 5).bind fun v => den mX5_takeNumber 14 [l0, l1, l2, l3] (v :: st) σ) ∧
  (∀ (l0 l1 l2 l3 : Option Value) (st : List Value) (σ : dS), den mX5_takeNumber 14 [l0, l1, l2, l3] st σ = den mX5_takeNumber 15 [l0, l1, l2, l3] (.int (nI 2) :: st) σ) ∧
  (∀ (l0 l1 l2 l3 : Option Value) (x y : Int32) (st : List Value) (σ : dS), den mX5_takeNumber 15 [l0, l1, l2, l3] (.int y :: .int x :: st) σ = if x = y then den mX5_takeNumber 27 [l0, l1, l2, l3] st σ else den mX5_takeNumber 18 [l0, l1, l2, l3] st σ) ∧
  (∀ (l1 l2 l3 : Option Value) (x : Nat) (st : List Value) (σ : dS), den mX5_takeNumber 18 [some (.ref x), l1, l2, l3] st σ = den mX5_takeNumber 19 [some (.ref x), l1, l2, l3] (.ref x :: st) σ) ∧
  (∀ (l0 l1 l2 l3 : Option Value) (st : List Value) (σ : dS), den mX5_takeNumber 19 [l0, l1, l2, l3] st σ = den mX5_takeNumber 20 [l0, l1, l2, l3] (.int (nI 2) :: st) σ) ∧
  (∀ (l0 l1 l2 l3 : Option Value) (a0 : Int32) (q : Nat) (σ : dS), den mX5_takeNumber 20 [l0, l1, l2, l3] [.int a0, .ref q] σ = if disO σ q 4 = true then ((dcall mX5_refuse [.ref q, .int a0] σ).bind fun r => den mX5_takeNumber 23 [l0, l1, l2, l3] (r.1.toList ++ []) r.2) else none) ∧
  (∀ (l0 l1 l2 l3 : Option Value) (x : Int32) (st : List Value) (σ : dS), den mX5_takeNumber 23 [l0, l1, l2, l3] (.int x :: st) σ = den mX5_takeNumber 24 [l0, l1, l2, l3] st σ) ∧
  (∀ (l0 l1 l2 l3 : Option Value) (st : List Value) (σ : dS), den mX5_takeNumber 24 [l0, l1, l2, l3] st σ = den mX5_takeNumber 26 [l0, l1, l2, l3] (.int ((-4)) :: st) σ) ∧
  (∀ (l0 l1 l2 l3 : Option Value) (v : Int32) (σ : dS), den mX5_takeNumber 26 [l0, l1, l2, l3] [.int v] σ = some (some (.int v), σ)) ∧
  (∀ (l0 l1 l2 l3 : Option Value) (st : List Value) (σ : dS), den mX5_takeNumber 27 [l0, l1, l2, l3] st σ = den mX5_takeNumber 28 [l0, l1, l2, l3] (.int (nI 0) :: st) σ) ∧
  (∀ (l0 l2 l3 : Option Value) (x : Int32) (y : Int32) (st : List Value) (σ : dS), den mX5_takeNumber 28 [l0, some (.int y), l2, l3] (.int x :: st) σ = den mX5_takeNumber 29 [l0, some (.int y), some (.int x), l3] st σ) ∧
  (∀ (l1 l2 l3 : Option Value) (x : Nat) (st : List Value) (σ : dS), den mX5_takeNumber 29 [some (.ref x), l1, l2, l3] st σ = den mX5_takeNumber 30 [some (.ref x), l1, l2, l3] (.ref x :: st) σ) ∧
  (∀ (l0 l1 l2 l3 : Option Value) (q : Nat) (st : List Value) (σ : dS), den mX5_takeNumber 30 [l0, l1, l2, l3] (.ref q :: st) σ = (dget σ q 4 6).bind fun v => den mX5_takeNumber 33 [l0, l1, l2, l3] (v :: st) σ) ∧
  (∀ (l0 l1 l3 : Option Value) (x : Int32) (y : Int32) (st : List Value) (σ : dS), den mX5_takeNumber 33 [l0, l1, some (.int y), l3] (.int x :: st) σ = den mX5_takeNumber 34 [l0, l1, some (.int y), some (.int x)] st σ) ∧
  (∀ (l1 l2 l3 : Option Value) (x : Nat) (st : List Value) (σ : dS), den mX5_takeNumber 35 [some (.ref x), l1, l2, l3] st σ = den mX5_takeNumber 36 [some (.ref x), l1, l2, l3] (.ref x :: st) σ) ∧
  (∀ (l0 l1 l2 l3 : Option Value) (q : Nat) (st : List Value) (σ : dS), den mX5_takeNumber 36 [l0, l1, l2, l3] (.ref q :: st) σ = (dget σ q 4 7).bind fun v => den mX5_takeNumber 39 [l0, l1, l2, l3] (v :: st) σ) ∧
  (∀ (l0 l1 l2 l3 : Option Value) (x y : Int32) (st : List Value) (σ : dS), den mX5_takeNumber 39 [l0, l1, l2, l3] (.int y :: .int x :: st) σ = if x < y then den mX5_takeNumber 42 [l0, l1, l2, l3] st σ else den mX5_takeNumber 63 [l0, l1, l2, l3] st σ) ∧
  (∀ (l0 l1 l2 l3 : Option Value) (st : List Value) (σ : dS), den mX5_takeNumber 42 [l0, l1, l2, l3] st σ = den mX5_takeNumber 44 [l0, l1, l2, l3] (.int (nI 10) :: st) σ) ∧
  (∀ (l0 l1 l3 : Option Value) (x : Int32) (st : List Value) (σ : dS), den mX5_takeNumber 44 [l0, l1, some (.int x), l3] st σ = den mX5_takeNumber 45 [l0, l1, some (.int x), l3] (.int x :: st) σ) ∧
  (∀ (l0 l1 l2 l3 : Option Value) (x y : Int32) (st : List Value) (σ : dS), den mX5_takeNumber 45 [l0, l1, l2, l3] (.int y :: .int x :: st) σ = den mX5_takeNumber 46 [l0, l1, l2, l3] (.int (x * y) :: st) σ) ∧
  (∀ (l1 l2 l3 : Option Value) (x : Nat) (st : List Value) (σ : dS), den mX5_takeNumber 46 [some (.ref x), l1, l2, l3] st σ = den mX5_takeNumber 47 [some (.ref x), l1, l2, l3] (.ref x :: st) σ) ∧
  (∀ (l0 l1 l2 l3 : Option Value) (q : Nat) (st : List Value) (σ : dS), den mX5_takeNumber 47 [l0, l1, l2, l3] (.ref q :: st) σ = (dget σ q 4 1).bind fun v => den mX5_takeNumber 50 [l0, l1, l2, l3] (v :: st) σ) ∧
  (∀ (l0 l1 l2 : Option Value) (x : Int32) (st : List Value) (σ : dS), den mX5_takeNumber 50 [l0, l1, l2, some (.int x)] st σ = den mX5_takeNumber 51 [l0, l1, l2, some (.int x)] (.int x :: st) σ) ∧
  (∀ (l0 l1 l2 l3 : Option Value) (q : Nat) (i : Int32) (st : List Value) (σ : dS), den mX5_takeNumber 51 [l0, l1, l2, l3] (.int i :: .ref q :: st) σ = (dbld σ q i).bind fun v => den mX5_takeNumber 52 [l0, l1, l2, l3] (.int v :: st) σ) ∧
  (∀ (l0 l1 l2 l3 : Option Value) (x y : Int32) (st : List Value) (σ : dS), den mX5_takeNumber 52 [l0, l1, l2, l3] (.int y :: .int x :: st) σ = den mX5_takeNumber 53 [l0, l1, l2, l3] (.int (x + y) :: st) σ) ∧
  (∀ (l0 l1 l2 l3 : Option Value) (st : List Value) (σ : dS), den mX5_takeNumber 53 [l0, l1, l2, l3] st σ = den mX5_takeNumber 55 [l0, l1, l2, l3] (.int (nI 48) :: st) σ) ∧
  (∀ (l0 l1 l2 l3 : Option Value) (x y : Int32) (st : List Value) (σ : dS), den mX5_takeNumber 55 [l0, l1, l2, l3] (.int y :: .int x :: st) σ = den mX5_takeNumber 56 [l0, l1, l2, l3] (.int (x - y) :: st) σ) ∧
  (∀ (l0 l2 l3 : Option Value) (x : Int32) (y : Int32) (st : List Value) (σ : dS), den mX5_takeNumber 56 [l0, some (.int y), l2, l3] (.int x :: st) σ = den mX5_takeNumber 57 [l0, some (.int y), some (.int x), l3] st σ) ∧
  (∀ (l0 l1 : Option Value) (x : Int32) (y : Int32) (st : List Value) (σ : dS), den mX5_takeNumber 57 [l0, l1, some (.int y), some (.int x)] st σ = den mX5_takeNumber 60 [l0, l1, some (.int y), some (.int (x + nI 1))] st σ) ∧
  (∀ (l0 l1 l2 l3 : Option Value) (st : List Value) (σ : dS), den mX5_takeNumber 60 [l0, l1, l2, l3] st σ = den mX5_takeNumber 34 [l0, l1, l2, l3] st σ) ∧
  (∀ (l0 l1 l3 : Option Value) (x : Int32) (st : List Value) (σ : dS), den mX5_takeNumber 63 [l0, l1, some (.int x), l3] st σ = den mX5_takeNumber 64 [l0, l1, some (.int x), l3] (.int x :: st) σ) ∧
  (∀ (l0 l2 l3 : Option Value) (x : Int32) (st : List Value) (σ : dS), den mX5_takeNumber 64 [l0, some (.int x), l2, l3] st σ = den mX5_takeNumber 65 [l0, some (.int x), l2, l3] (.int x :: st) σ) ∧
  (∀ (l0 l1 l2 l3 : Option Value) (x y : Int32) (st : List Value) (σ : dS), den mX5_takeNumber 65 [l0, l1, l2, l3] (.int y :: .int x :: st) σ = if y < x then den mX5_takeNumber 68 [l0, l1, l2, l3] st σ else den mX5_takeNumber 77 [l0, l1, l2, l3] st σ) ∧
  (∀ (l1 l2 l3 : Option Value) (x : Nat) (st : List Value) (σ : dS), den mX5_takeNumber 68 [some (.ref x), l1, l2, l3] st σ = den mX5_takeNumber 69 [some (.ref x), l1, l2, l3] (.ref x :: st) σ) :=
  ⟨fun l1 l2 l3 x st σ => dn_aload_n eX5_takeNumber dX5_takeNumber_0 rfl,
  fun l0 l1 l2 l3 q σ => rX5_takeNumber_1 l0 l1 l2 l3 q σ,
  fun l0 l1 l2 l3 x st σ => dn_if_ne eX5_takeNumber dX5_takeNumber_4 (by decide),
  fun l0 l1 l2 l3 st σ => dn_bipush eX5_takeNumber dX5_takeNumber_7 kc_bipush_m4,
  fun l0 l1 l2 l3 v σ => dn_ireturn eX5_takeNumber dX5_takeNumber_9 rfl,
  fun l1 l2 l3 x st σ => dn_aload_n eX5_takeNumber dX5_takeNumber_10 rfl,
  fun l0 l1 l2 l3 q st σ => dn_getfield (f := (4, 5, 152)) eX5_takeNumber dX5_takeNumber_11 (by decide +kernel),
  fun l0 l1 l2 l3 st σ => dn_iconst eX5_takeNumber dX5_takeNumber_14 kc_iconst_2,
  fun l0 l1 l2 l3 x y st σ => dn_icmp_eq eX5_takeNumber dX5_takeNumber_15 (by decide),
  fun l1 l2 l3 x st σ => dn_aload_n eX5_takeNumber dX5_takeNumber_18 rfl,
  fun l0 l1 l2 l3 st σ => dn_iconst eX5_takeNumber dX5_takeNumber_19 kc_iconst_2,
  fun l0 l1 l2 l3 a0 q σ => rX5_takeNumber_20 l0 l1 l2 l3 a0 q σ,
  fun l0 l1 l2 l3 x st σ => dn_pop eX5_takeNumber dX5_takeNumber_23 rfl,
  fun l0 l1 l2 l3 st σ => dn_bipush eX5_takeNumber dX5_takeNumber_24 kc_bipush_m4,
  fun l0 l1 l2 l3 v σ => dn_ireturn eX5_takeNumber dX5_takeNumber_26 rfl,
  fun l0 l1 l2 l3 st σ => dn_iconst eX5_takeNumber dX5_takeNumber_27 kc_iconst_0,
  fun l0 l2 l3 x y st σ => dn_istore_n eX5_takeNumber dX5_takeNumber_28 rfl,
  fun l1 l2 l3 x st σ => dn_aload_n eX5_takeNumber dX5_takeNumber_29 rfl,
  fun l0 l1 l2 l3 q st σ => dn_getfield (f := (4, 6, 153)) eX5_takeNumber dX5_takeNumber_30 (by decide +kernel),
  fun l0 l1 l3 x y st σ => dn_istore_n eX5_takeNumber dX5_takeNumber_33 rfl,
  fun l1 l2 l3 x st σ => dn_aload_n eX5_takeNumber dX5_takeNumber_35 rfl,
  fun l0 l1 l2 l3 q st σ => dn_getfield (f := (4, 7, 154)) eX5_takeNumber dX5_takeNumber_36 (by decide +kernel),
  fun l0 l1 l2 l3 x y st σ => dn_icmp_ge eX5_takeNumber dX5_takeNumber_39 (by decide),
  fun l0 l1 l2 l3 st σ => dn_bipush eX5_takeNumber dX5_takeNumber_42 kc_bipush_10,
  fun l0 l1 l3 x st σ => dn_iload_n eX5_takeNumber dX5_takeNumber_44 rfl,
  fun l0 l1 l2 l3 x y st σ => dn_imul eX5_takeNumber dX5_takeNumber_45,
  fun l1 l2 l3 x st σ => dn_aload_n eX5_takeNumber dX5_takeNumber_46 rfl,
  fun l0 l1 l2 l3 q st σ => dn_getfield (f := (4, 1, 146)) eX5_takeNumber dX5_takeNumber_47 (by decide +kernel),
  fun l0 l1 l2 x st σ => dn_iload_n eX5_takeNumber dX5_takeNumber_50 rfl,
  fun l0 l1 l2 l3 q i st σ => dn_baload eX5_takeNumber dX5_takeNumber_51,
  fun l0 l1 l2 l3 x y st σ => dn_iadd eX5_takeNumber dX5_takeNumber_52,
  fun l0 l1 l2 l3 st σ => dn_bipush eX5_takeNumber dX5_takeNumber_53 kc_bipush_48,
  fun l0 l1 l2 l3 x y st σ => dn_isub eX5_takeNumber dX5_takeNumber_55,
  fun l0 l2 l3 x y st σ => dn_istore_n eX5_takeNumber dX5_takeNumber_56 rfl,
  fun l0 l1 x y st σ => dn_iinc (v := nI 1) eX5_takeNumber dX5_takeNumber_57 rfl kc_iconst_1 rfl,
  fun l0 l1 l2 l3 st σ => dn_goto eX5_takeNumber dX5_takeNumber_60 (by decide),
  fun l0 l1 l3 x st σ => dn_iload_n eX5_takeNumber dX5_takeNumber_63 rfl,
  fun l0 l2 l3 x st σ => dn_iload_n eX5_takeNumber dX5_takeNumber_64 rfl,
  fun l0 l1 l2 l3 x y st σ => dn_icmp_le eX5_takeNumber dX5_takeNumber_65 (by decide),
  fun l1 l2 l3 x st σ => dn_aload_n eX5_takeNumber dX5_takeNumber_68 rfl⟩
set_option maxRecDepth 20000 in
theorem SX5_takeNumber_1 : (∀ (l0 l1 l2 l3 : Option Value) (st : List Value) (σ : dS), den mX5_takeNumber 69 [l0, l1, l2, l3] st σ = den mX5_takeNumber 70 [l0, l1, l2, l3] (.int (nI 3) :: st) σ) ∧
  (∀ (l0 l1 l2 l3 : Option Value) (a0 : Int32) (q : Nat) (σ : dS), den mX5_takeNumber 70 [l0, l1, l2, l3] [.int a0, .ref q] σ = if disO σ q 4 = true then ((dcall mX5_refuse [.ref q, .int a0] σ).bind fun r => den mX5_takeNumber 73 [l0, l1, l2, l3] (r.1.toList ++ []) r.2) else none) ∧
  (∀ (l0 l1 l2 l3 : Option Value) (x : Int32) (st : List Value) (σ : dS), den mX5_takeNumber 73 [l0, l1, l2, l3] (.int x :: st) σ = den mX5_takeNumber 74 [l0, l1, l2, l3] st σ) ∧
  (∀ (l0 l1 l2 l3 : Option Value) (st : List Value) (σ : dS), den mX5_takeNumber 74 [l0, l1, l2, l3] st σ = den mX5_takeNumber 76 [l0, l1, l2, l3] (.int ((-4)) :: st) σ) ∧
  (∀ (l0 l1 l2 l3 : Option Value) (v : Int32) (σ : dS), den mX5_takeNumber 76 [l0, l1, l2, l3] [.int v] σ = some (some (.int v), σ)) ∧
  (∀ (l0 l1 l3 : Option Value) (x : Int32) (st : List Value) (σ : dS), den mX5_takeNumber 77 [l0, l1, some (.int x), l3] st σ = den mX5_takeNumber 78 [l0, l1, some (.int x), l3] (.int x :: st) σ) ∧
  (∀ (l0 l1 l2 l3 : Option Value) (v : Int32) (σ : dS), den mX5_takeNumber 78 [l0, l1, l2, l3] [.int v] σ = some (some (.int v), σ)) :=
  ⟨fun l0 l1 l2 l3 st σ => dn_iconst eX5_takeNumber dX5_takeNumber_69 kc_iconst_3,
  fun l0 l1 l2 l3 a0 q σ => rX5_takeNumber_70 l0 l1 l2 l3 a0 q σ,
  fun l0 l1 l2 l3 x st σ => dn_pop eX5_takeNumber dX5_takeNumber_73 rfl,
  fun l0 l1 l2 l3 st σ => dn_bipush eX5_takeNumber dX5_takeNumber_74 kc_bipush_m4,
  fun l0 l1 l2 l3 v σ => dn_ireturn eX5_takeNumber dX5_takeNumber_76 rfl,
  fun l0 l1 l3 x st σ => dn_iload_n eX5_takeNumber dX5_takeNumber_77 rfl,
  fun l0 l1 l2 l3 v σ => dn_ireturn eX5_takeNumber dX5_takeNumber_78 rfl⟩
theorem CX5_takeVariable (a0 : Nat) (σ : dS) : dcall mX5_takeVariable [.ref a0] σ = den mX5_takeVariable 0 [some (.ref a0)] [] σ := dcall_den (by decide) rfl
theorem rX5_takeVariable_1 (l0 : Option Value) (q : Nat) (σ : dS) : den mX5_takeVariable 1 [l0] [.ref q] σ = if disO σ q 4 = true then ((dcall mX5_readToken [.ref q] σ).bind fun r => den mX5_takeVariable 4 [l0] (r.1.toList ++ []) r.2) else none := by
  by_cases h : disO σ q 4 = true
  · rw [if_pos h]; exact dn_callV (e := (0, 58, 310)) (as := []) (rest := []) eX5_takeVariable dX5_takeVariable_1 (by decide +kernel) rfl (by decide +kernel) rfl (dcat_le rfl) (dlen_le rfl) rfl h
  · rw [if_neg h]; exact den_noV (e := (0, 58, 310)) (as := []) (rest := []) eX5_takeVariable dX5_takeVariable_1 (by decide +kernel) rfl rfl rfl h
theorem rX5_takeVariable_50 (l0 : Option Value) (a0 : Int32) (q : Nat) (σ : dS) : den mX5_takeVariable 50 [l0] [.int a0, .ref q] σ = if disO σ q 4 = true then ((dcall mX5_refuse [.ref q, .int a0] σ).bind fun r => den mX5_takeVariable 53 [l0] (r.1.toList ++ []) r.2) else none := by
  by_cases h : disO σ q 4 = true
  · rw [if_pos h]; exact dn_callV (e := (0, 56, 318)) (as := [.int a0]) (rest := []) eX5_takeVariable dX5_takeVariable_50 (by decide +kernel) rfl (by decide +kernel) rfl (dcat_le rfl) (dlen_le rfl) rfl h
  · rw [if_neg h]; exact den_noV (e := (0, 56, 318)) (as := [.int a0]) (rest := []) eX5_takeVariable dX5_takeVariable_50 (by decide +kernel) rfl rfl rfl h
set_option maxRecDepth 20000 in
theorem SX5_takeVariable : (∀ (x : Nat) (st : List Value) (σ : dS), den mX5_takeVariable 0 [some (.ref x)] st σ = den mX5_takeVariable 1 [some (.ref x)] (.ref x :: st) σ) ∧
  (∀ (l0 : Option Value) (q : Nat) (σ : dS), den mX5_takeVariable 1 [l0] [.ref q] σ = if disO σ q 4 = true then ((dcall mX5_readToken [.ref q] σ).bind fun r => den mX5_takeVariable 4 [l0] (r.1.toList ++ []) r.2) else none) ∧
  (∀ (l0 : Option Value) (x : Int32) (st : List Value) (σ : dS), den mX5_takeVariable 4 [l0] (.int x :: st) σ = if x = 0 then den mX5_takeVariable 7 [l0] st σ else den mX5_takeVariable 10 [l0] st σ) ∧
  (∀ (l0 : Option Value) (st : List Value) (σ : dS), den mX5_takeVariable 7 [l0] st σ = den mX5_takeVariable 9 [l0] (.int ((-4)) :: st) σ) ∧
  (∀ (l0 : Option Value) (v : Int32) (σ : dS), den mX5_takeVariable 9 [l0] [.int v] σ = some (some (.int v), σ)) ∧
  (∀ (x : Nat) (st : List Value) (σ : dS), den mX5_takeVariable 10 [some (.ref x)] st σ = den mX5_takeVariable 11 [some (.ref x)] (.ref x :: st) σ) ∧
  (∀ (l0 : Option Value) (q : Nat) (st : List Value) (σ : dS), den mX5_takeVariable 11 [l0] (.ref q :: st) σ = (dget σ q 4 5).bind fun v => den mX5_takeVariable 14 [l0] (v :: st) σ) ∧
  (∀ (l0 : Option Value) (st : List Value) (σ : dS), den mX5_takeVariable 14 [l0] st σ = den mX5_takeVariable 15 [l0] (.int (nI 1) :: st) σ) ∧
  (∀ (l0 : Option Value) (x y : Int32) (st : List Value) (σ : dS), den mX5_takeVariable 15 [l0] (.int y :: .int x :: st) σ = if x = y then den mX5_takeVariable 18 [l0] st σ else den mX5_takeVariable 48 [l0] st σ) ∧
  (∀ (x : Nat) (st : List Value) (σ : dS), den mX5_takeVariable 18 [some (.ref x)] st σ = den mX5_takeVariable 19 [some (.ref x)] (.ref x :: st) σ) ∧
  (∀ (l0 : Option Value) (q : Nat) (st : List Value) (σ : dS), den mX5_takeVariable 19 [l0] (.ref q :: st) σ = (dget σ q 4 7).bind fun v => den mX5_takeVariable 22 [l0] (v :: st) σ) ∧
  (∀ (x : Nat) (st : List Value) (σ : dS), den mX5_takeVariable 22 [some (.ref x)] st σ = den mX5_takeVariable 23 [some (.ref x)] (.ref x :: st) σ) ∧
  (∀ (l0 : Option Value) (q : Nat) (st : List Value) (σ : dS), den mX5_takeVariable 23 [l0] (.ref q :: st) σ = (dget σ q 4 6).bind fun v => den mX5_takeVariable 26 [l0] (v :: st) σ) ∧
  (∀ (l0 : Option Value) (x y : Int32) (st : List Value) (σ : dS), den mX5_takeVariable 26 [l0] (.int y :: .int x :: st) σ = den mX5_takeVariable 27 [l0] (.int (x - y) :: st) σ) ∧
  (∀ (l0 : Option Value) (st : List Value) (σ : dS), den mX5_takeVariable 27 [l0] st σ = den mX5_takeVariable 28 [l0] (.int (nI 1) :: st) σ) ∧
  (∀ (l0 : Option Value) (x y : Int32) (st : List Value) (σ : dS), den mX5_takeVariable 28 [l0] (.int y :: .int x :: st) σ = if x = y then den mX5_takeVariable 31 [l0] st σ else den mX5_takeVariable 48 [l0] st σ) ∧
  (∀ (x : Nat) (st : List Value) (σ : dS), den mX5_takeVariable 31 [some (.ref x)] st σ = den mX5_takeVariable 32 [some (.ref x)] (.ref x :: st) σ) ∧
  (∀ (l0 : Option Value) (q : Nat) (st : List Value) (σ : dS), den mX5_takeVariable 32 [l0] (.ref q :: st) σ = (dget σ q 4 1).bind fun v => den mX5_takeVariable 35 [l0] (v :: st) σ) ∧
  (∀ (x : Nat) (st : List Value) (σ : dS), den mX5_takeVariable 35 [some (.ref x)] st σ = den mX5_takeVariable 36 [some (.ref x)] (.ref x :: st) σ) ∧
  (∀ (l0 : Option Value) (q : Nat) (st : List Value) (σ : dS), den mX5_takeVariable 36 [l0] (.ref q :: st) σ = (dget σ q 4 6).bind fun v => den mX5_takeVariable 39 [l0] (v :: st) σ) ∧
  (∀ (l0 : Option Value) (q : Nat) (i : Int32) (st : List Value) (σ : dS), den mX5_takeVariable 39 [l0] (.int i :: .ref q :: st) σ = (dbld σ q i).bind fun v => den mX5_takeVariable 40 [l0] (.int v :: st) σ) ∧
  (∀ (l0 : Option Value) (st : List Value) (σ : dS), den mX5_takeVariable 40 [l0] st σ = den mX5_takeVariable 42 [l0] (.int (nI 97) :: st) σ) ∧
  (∀ (l0 : Option Value) (x y : Int32) (st : List Value) (σ : dS), den mX5_takeVariable 42 [l0] (.int y :: .int x :: st) σ = den mX5_takeVariable 43 [l0] (.int (x - y) :: st) σ) ∧
  (∀ (l0 : Option Value) (st : List Value) (σ : dS), den mX5_takeVariable 43 [l0] st σ = den mX5_takeVariable 45 [l0] (.int (nI 8) :: st) σ) ∧
  (∀ (l0 : Option Value) (x y : Int32) (st : List Value) (σ : dS), den mX5_takeVariable 45 [l0] (.int y :: .int x :: st) σ = if x < y then den mX5_takeVariable 57 [l0] st σ else den mX5_takeVariable 48 [l0] st σ) ∧
  (∀ (x : Nat) (st : List Value) (σ : dS), den mX5_takeVariable 48 [some (.ref x)] st σ = den mX5_takeVariable 49 [some (.ref x)] (.ref x :: st) σ) ∧
  (∀ (l0 : Option Value) (st : List Value) (σ : dS), den mX5_takeVariable 49 [l0] st σ = den mX5_takeVariable 50 [l0] (.int (nI 2) :: st) σ) ∧
  (∀ (l0 : Option Value) (a0 : Int32) (q : Nat) (σ : dS), den mX5_takeVariable 50 [l0] [.int a0, .ref q] σ = if disO σ q 4 = true then ((dcall mX5_refuse [.ref q, .int a0] σ).bind fun r => den mX5_takeVariable 53 [l0] (r.1.toList ++ []) r.2) else none) ∧
  (∀ (l0 : Option Value) (x : Int32) (st : List Value) (σ : dS), den mX5_takeVariable 53 [l0] (.int x :: st) σ = den mX5_takeVariable 54 [l0] st σ) ∧
  (∀ (l0 : Option Value) (st : List Value) (σ : dS), den mX5_takeVariable 54 [l0] st σ = den mX5_takeVariable 56 [l0] (.int ((-4)) :: st) σ) ∧
  (∀ (l0 : Option Value) (v : Int32) (σ : dS), den mX5_takeVariable 56 [l0] [.int v] σ = some (some (.int v), σ)) ∧
  (∀ (x : Nat) (st : List Value) (σ : dS), den mX5_takeVariable 57 [some (.ref x)] st σ = den mX5_takeVariable 58 [some (.ref x)] (.ref x :: st) σ) ∧
  (∀ (l0 : Option Value) (q : Nat) (st : List Value) (σ : dS), den mX5_takeVariable 58 [l0] (.ref q :: st) σ = (dget σ q 4 1).bind fun v => den mX5_takeVariable 61 [l0] (v :: st) σ) ∧
  (∀ (x : Nat) (st : List Value) (σ : dS), den mX5_takeVariable 61 [some (.ref x)] st σ = den mX5_takeVariable 62 [some (.ref x)] (.ref x :: st) σ) ∧
  (∀ (l0 : Option Value) (q : Nat) (st : List Value) (σ : dS), den mX5_takeVariable 62 [l0] (.ref q :: st) σ = (dget σ q 4 6).bind fun v => den mX5_takeVariable 65 [l0] (v :: st) σ) ∧
  (∀ (l0 : Option Value) (q : Nat) (i : Int32) (st : List Value) (σ : dS), den mX5_takeVariable 65 [l0] (.int i :: .ref q :: st) σ = (dbld σ q i).bind fun v => den mX5_takeVariable 66 [l0] (.int v :: st) σ) ∧
  (∀ (l0 : Option Value) (st : List Value) (σ : dS), den mX5_takeVariable 66 [l0] st σ = den mX5_takeVariable 68 [l0] (.int (nI 97) :: st) σ) ∧
  (∀ (l0 : Option Value) (x y : Int32) (st : List Value) (σ : dS), den mX5_takeVariable 68 [l0] (.int y :: .int x :: st) σ = den mX5_takeVariable 69 [l0] (.int (x - y) :: st) σ) ∧
  (∀ (l0 : Option Value) (v : Int32) (σ : dS), den mX5_takeVariable 69 [l0] [.int v] σ = some (some (.int v), σ)) :=
  ⟨fun x st σ => dn_aload_n eX5_takeVariable dX5_takeVariable_0 rfl,
  fun l0 q σ => rX5_takeVariable_1 l0 q σ,
  fun l0 x st σ => dn_if_ne eX5_takeVariable dX5_takeVariable_4 (by decide),
  fun l0 st σ => dn_bipush eX5_takeVariable dX5_takeVariable_7 kc_bipush_m4,
  fun l0 v σ => dn_ireturn eX5_takeVariable dX5_takeVariable_9 rfl,
  fun x st σ => dn_aload_n eX5_takeVariable dX5_takeVariable_10 rfl,
  fun l0 q st σ => dn_getfield (f := (4, 5, 152)) eX5_takeVariable dX5_takeVariable_11 (by decide +kernel),
  fun l0 st σ => dn_iconst eX5_takeVariable dX5_takeVariable_14 kc_iconst_1,
  fun l0 x y st σ => dn_icmp_ne eX5_takeVariable dX5_takeVariable_15 (by decide),
  fun x st σ => dn_aload_n eX5_takeVariable dX5_takeVariable_18 rfl,
  fun l0 q st σ => dn_getfield (f := (4, 7, 154)) eX5_takeVariable dX5_takeVariable_19 (by decide +kernel),
  fun x st σ => dn_aload_n eX5_takeVariable dX5_takeVariable_22 rfl,
  fun l0 q st σ => dn_getfield (f := (4, 6, 153)) eX5_takeVariable dX5_takeVariable_23 (by decide +kernel),
  fun l0 x y st σ => dn_isub eX5_takeVariable dX5_takeVariable_26,
  fun l0 st σ => dn_iconst eX5_takeVariable dX5_takeVariable_27 kc_iconst_1,
  fun l0 x y st σ => dn_icmp_ne eX5_takeVariable dX5_takeVariable_28 (by decide),
  fun x st σ => dn_aload_n eX5_takeVariable dX5_takeVariable_31 rfl,
  fun l0 q st σ => dn_getfield (f := (4, 1, 146)) eX5_takeVariable dX5_takeVariable_32 (by decide +kernel),
  fun x st σ => dn_aload_n eX5_takeVariable dX5_takeVariable_35 rfl,
  fun l0 q st σ => dn_getfield (f := (4, 6, 153)) eX5_takeVariable dX5_takeVariable_36 (by decide +kernel),
  fun l0 q i st σ => dn_baload eX5_takeVariable dX5_takeVariable_39,
  fun l0 st σ => dn_bipush eX5_takeVariable dX5_takeVariable_40 kc_bipush_97,
  fun l0 x y st σ => dn_isub eX5_takeVariable dX5_takeVariable_42,
  fun l0 st σ => dn_bipush eX5_takeVariable dX5_takeVariable_43 kc_bipush_8,
  fun l0 x y st σ => dn_icmp_lt eX5_takeVariable dX5_takeVariable_45 (by decide),
  fun x st σ => dn_aload_n eX5_takeVariable dX5_takeVariable_48 rfl,
  fun l0 st σ => dn_iconst eX5_takeVariable dX5_takeVariable_49 kc_iconst_2,
  fun l0 a0 q σ => rX5_takeVariable_50 l0 a0 q σ,
  fun l0 x st σ => dn_pop eX5_takeVariable dX5_takeVariable_53 rfl,
  fun l0 st σ => dn_bipush eX5_takeVariable dX5_takeVariable_54 kc_bipush_m4,
  fun l0 v σ => dn_ireturn eX5_takeVariable dX5_takeVariable_56 rfl,
  fun x st σ => dn_aload_n eX5_takeVariable dX5_takeVariable_57 rfl,
  fun l0 q st σ => dn_getfield (f := (4, 1, 146)) eX5_takeVariable dX5_takeVariable_58 (by decide +kernel),
  fun x st σ => dn_aload_n eX5_takeVariable dX5_takeVariable_61 rfl,
  fun l0 q st σ => dn_getfield (f := (4, 6, 153)) eX5_takeVariable dX5_takeVariable_62 (by decide +kernel),
  fun l0 q i st σ => dn_baload eX5_takeVariable dX5_takeVariable_65,
  fun l0 st σ => dn_bipush eX5_takeVariable dX5_takeVariable_66 kc_bipush_97,
  fun l0 x y st σ => dn_isub eX5_takeVariable dX5_takeVariable_68,
  fun l0 v σ => dn_ireturn eX5_takeVariable dX5_takeVariable_69 rfl⟩
theorem CX5_takeSecond (a0 : Nat) (a1 : Int32) (σ : dS) : dcall mX5_takeSecond [.ref a0, .int a1] σ = den mX5_takeSecond 0 [some (.ref a0), some (.int a1)] [] σ := dcall_den (by decide) rfl
theorem rX5_takeSecond_7 (l0 l1 : Option Value) (a0 : Int32) (q : Nat) (σ : dS) : den mX5_takeSecond 7 [l0, l1] [.int a0, .ref q] σ = if disO σ q 4 = true then ((dcall mX5_takeNumber [.ref q, .int a0] σ).bind fun r => den mX5_takeSecond 10 [l0, l1] (r.1.toList ++ []) r.2) else none := by
  by_cases h : disO σ q 4 = true
  · rw [if_pos h]; exact dn_callV (e := (0, 63, 400)) (as := [.int a0]) (rest := []) eX5_takeSecond dX5_takeSecond_7 (by decide +kernel) rfl (by decide +kernel) rfl (dcat_le rfl) (dlen_le rfl) rfl h
  · rw [if_neg h]; exact den_noV (e := (0, 63, 400)) (as := [.int a0]) (rest := []) eX5_takeSecond dX5_takeSecond_7 (by decide +kernel) rfl rfl rfl h
theorem rX5_takeSecond_19 (l0 l1 : Option Value) (a0 : Int32) (q : Nat) (σ : dS) : den mX5_takeSecond 19 [l0, l1] [.int a0, .ref q] σ = if disO σ q 4 = true then ((dcall mX5_takeNumber [.ref q, .int a0] σ).bind fun r => den mX5_takeSecond 22 [l0, l1] (r.1.toList ++ []) r.2) else none := by
  by_cases h : disO σ q 4 = true
  · rw [if_pos h]; exact dn_callV (e := (0, 63, 400)) (as := [.int a0]) (rest := []) eX5_takeSecond dX5_takeSecond_19 (by decide +kernel) rfl (by decide +kernel) rfl (dcat_le rfl) (dlen_le rfl) rfl h
  · rw [if_neg h]; exact den_noV (e := (0, 63, 400)) (as := [.int a0]) (rest := []) eX5_takeSecond dX5_takeSecond_19 (by decide +kernel) rfl rfl rfl h
theorem rX5_takeSecond_26 (l0 l1 : Option Value) (q : Nat) (σ : dS) : den mX5_takeSecond 26 [l0, l1] [.ref q] σ = if disO σ q 4 = true then ((dcall mX5_takeVariable [.ref q] σ).bind fun r => den mX5_takeSecond 29 [l0, l1] (r.1.toList ++ []) r.2) else none := by
  by_cases h : disO σ q 4 = true
  · rw [if_pos h]; exact dn_callV (e := (0, 64, 392)) (as := []) (rest := []) eX5_takeSecond dX5_takeSecond_26 (by decide +kernel) rfl (by decide +kernel) rfl (dcat_le rfl) (dlen_le rfl) rfl h
  · rw [if_neg h]; exact den_noV (e := (0, 64, 392)) (as := []) (rest := []) eX5_takeSecond dX5_takeSecond_26 (by decide +kernel) rfl rfl rfl h
set_option maxRecDepth 20000 in
theorem SX5_takeSecond : (∀ (l0 : Option Value) (x : Int32) (st : List Value) (σ : dS), den mX5_takeSecond 0 [l0, some (.int x)] st σ = den mX5_takeSecond 1 [l0, some (.int x)] (.int x :: st) σ) ∧
  (∀ (l0 l1 : Option Value) (x : Int32) (st : List Value) (σ : dS), den mX5_takeSecond 1 [l0, l1] (.int x :: st) σ = if x = 0 then den mX5_takeSecond 4 [l0, l1] st σ else den mX5_takeSecond 11 [l0, l1] st σ) ∧
  (∀ (l1 : Option Value) (x : Nat) (st : List Value) (σ : dS), den mX5_takeSecond 4 [some (.ref x), l1] st σ = den mX5_takeSecond 5 [some (.ref x), l1] (.ref x :: st) σ) ∧
  (∀ (l0 l1 : Option Value) (st : List Value) (σ : dS), den mX5_takeSecond 5 [l0, l1] st σ = den mX5_takeSecond 7 [l0, l1] (.int (nI 99) :: st) σ) ∧
  (∀ (l0 l1 : Option Value) (a0 : Int32) (q : Nat) (σ : dS), den mX5_takeSecond 7 [l0, l1] [.int a0, .ref q] σ = if disO σ q 4 = true then ((dcall mX5_takeNumber [.ref q, .int a0] σ).bind fun r => den mX5_takeSecond 10 [l0, l1] (r.1.toList ++ []) r.2) else none) ∧
  (∀ (l0 l1 : Option Value) (v : Int32) (σ : dS), den mX5_takeSecond 10 [l0, l1] [.int v] σ = some (some (.int v), σ)) ∧
  (∀ (l0 : Option Value) (x : Int32) (st : List Value) (σ : dS), den mX5_takeSecond 11 [l0, some (.int x)] st σ = den mX5_takeSecond 12 [l0, some (.int x)] (.int x :: st) σ) ∧
  (∀ (l0 l1 : Option Value) (st : List Value) (σ : dS), den mX5_takeSecond 12 [l0, l1] st σ = den mX5_takeSecond 13 [l0, l1] (.int (nI 5) :: st) σ) ∧
  (∀ (l0 l1 : Option Value) (x y : Int32) (st : List Value) (σ : dS), den mX5_takeSecond 13 [l0, l1] (.int y :: .int x :: st) σ = if x = y then den mX5_takeSecond 16 [l0, l1] st σ else den mX5_takeSecond 25 [l0, l1] st σ) ∧
  (∀ (l1 : Option Value) (x : Nat) (st : List Value) (σ : dS), den mX5_takeSecond 16 [some (.ref x), l1] st σ = den mX5_takeSecond 17 [some (.ref x), l1] (.ref x :: st) σ) ∧
  (∀ (l0 l1 : Option Value) (st : List Value) (σ : dS), den mX5_takeSecond 17 [l0, l1] st σ = den mX5_takeSecond 19 [l0, l1] (.int (nI 10) :: st) σ) ∧
  (∀ (l0 l1 : Option Value) (a0 : Int32) (q : Nat) (σ : dS), den mX5_takeSecond 19 [l0, l1] [.int a0, .ref q] σ = if disO σ q 4 = true then ((dcall mX5_takeNumber [.ref q, .int a0] σ).bind fun r => den mX5_takeSecond 22 [l0, l1] (r.1.toList ++ []) r.2) else none) ∧
  (∀ (l0 l1 : Option Value) (st : List Value) (σ : dS), den mX5_takeSecond 22 [l0, l1] st σ = den mX5_takeSecond 29 [l0, l1] st σ) ∧
  (∀ (l1 : Option Value) (x : Nat) (st : List Value) (σ : dS), den mX5_takeSecond 25 [some (.ref x), l1] st σ = den mX5_takeSecond 26 [some (.ref x), l1] (.ref x :: st) σ) ∧
  (∀ (l0 l1 : Option Value) (q : Nat) (σ : dS), den mX5_takeSecond 26 [l0, l1] [.ref q] σ = if disO σ q 4 = true then ((dcall mX5_takeVariable [.ref q] σ).bind fun r => den mX5_takeSecond 29 [l0, l1] (r.1.toList ++ []) r.2) else none) ∧
  (∀ (l0 l1 : Option Value) (v : Int32) (σ : dS), den mX5_takeSecond 29 [l0, l1] [.int v] σ = some (some (.int v), σ)) :=
  ⟨fun l0 x st σ => dn_iload_n eX5_takeSecond dX5_takeSecond_0 rfl,
  fun l0 l1 x st σ => dn_if_ne eX5_takeSecond dX5_takeSecond_1 (by decide),
  fun l1 x st σ => dn_aload_n eX5_takeSecond dX5_takeSecond_4 rfl,
  fun l0 l1 st σ => dn_bipush eX5_takeSecond dX5_takeSecond_5 kc_bipush_99,
  fun l0 l1 a0 q σ => rX5_takeSecond_7 l0 l1 a0 q σ,
  fun l0 l1 v σ => dn_ireturn eX5_takeSecond dX5_takeSecond_10 rfl,
  fun l0 x st σ => dn_iload_n eX5_takeSecond dX5_takeSecond_11 rfl,
  fun l0 l1 st σ => dn_iconst eX5_takeSecond dX5_takeSecond_12 kc_iconst_5,
  fun l0 l1 x y st σ => dn_icmp_ne eX5_takeSecond dX5_takeSecond_13 (by decide),
  fun l1 x st σ => dn_aload_n eX5_takeSecond dX5_takeSecond_16 rfl,
  fun l0 l1 st σ => dn_bipush eX5_takeSecond dX5_takeSecond_17 kc_bipush_10,
  fun l0 l1 a0 q σ => rX5_takeSecond_19 l0 l1 a0 q σ,
  fun l0 l1 st σ => dn_goto eX5_takeSecond dX5_takeSecond_22 (by decide),
  fun l1 x st σ => dn_aload_n eX5_takeSecond dX5_takeSecond_25 rfl,
  fun l0 l1 q σ => rX5_takeSecond_26 l0 l1 q σ,
  fun l0 l1 v σ => dn_ireturn eX5_takeSecond dX5_takeSecond_29 rfl⟩
theorem CX5_takeStatement (a0 : Nat) (σ : dS) : dcall mX5_takeStatement [.ref a0] σ = den mX5_takeStatement 0 [some (.ref a0), none, none, none, none] [] σ := dcall_den (by decide) rfl
theorem rX5_takeStatement_1 (l0 l1 l2 l3 l4 : Option Value) (q : Nat) (σ : dS) : den mX5_takeStatement 1 [l0, l1, l2, l3, l4] [.ref q] σ = if disO σ q 4 = true then ((dcall mX5_kindOfName [.ref q] σ).bind fun r => den mX5_takeStatement 4 [l0, l1, l2, l3, l4] (r.1.toList ++ []) r.2) else none := by
  by_cases h : disO σ q 4 = true
  · rw [if_pos h]; exact dn_callV (e := (0, 62, 326)) (as := []) (rest := []) eX5_takeStatement dX5_takeStatement_1 (by decide +kernel) rfl (by decide +kernel) rfl (dcat_le rfl) (dlen_le rfl) rfl h
  · rw [if_neg h]; exact den_noV (e := (0, 62, 326)) (as := []) (rest := []) eX5_takeStatement dX5_takeStatement_1 (by decide +kernel) rfl rfl rfl h
theorem rX5_takeStatement_13 (l0 l1 l2 l3 l4 : Option Value) (a0 : Int32) (q : Nat) (σ : dS) : den mX5_takeStatement 13 [l0, l1, l2, l3, l4] [.int a0, .ref q] σ = if disO σ q 4 = true then ((dcall mX5_refuse [.ref q, .int a0] σ).bind fun r => den mX5_takeStatement 16 [l0, l1, l2, l3, l4] (r.1.toList ++ []) r.2) else none := by
  by_cases h : disO σ q 4 = true
  · rw [if_pos h]; exact dn_callV (e := (0, 56, 318)) (as := [.int a0]) (rest := []) eX5_takeStatement dX5_takeStatement_13 (by decide +kernel) rfl (by decide +kernel) rfl (dcat_le rfl) (dlen_le rfl) rfl h
  · rw [if_neg h]; exact den_noV (e := (0, 56, 318)) (as := [.int a0]) (rest := []) eX5_takeStatement dX5_takeStatement_13 (by decide +kernel) rfl rfl rfl h
theorem rX5_takeStatement_22 (l0 l1 l2 l3 l4 : Option Value) (a0 : Int32) (q : Nat) (σ : dS) : den mX5_takeStatement 22 [l0, l1, l2, l3, l4] [.int a0, .ref q] σ = if disO σ q 2 = true then ((dcall mX3_hasRoomFor [.ref q, .int a0] σ).bind fun r => den mX5_takeStatement 25 [l0, l1, l2, l3, l4] (r.1.toList ++ []) r.2) else none := by
  by_cases h : disO σ q 2 = true
  · rw [if_pos h]; exact dn_callV (e := (0, 26, 388)) (as := [.int a0]) (rest := []) eX5_takeStatement dX5_takeStatement_22 (by decide +kernel) rfl (by decide +kernel) rfl (dcat_le rfl) (dlen_le rfl) rfl h
  · rw [if_neg h]; exact den_noV (e := (0, 26, 388)) (as := [.int a0]) (rest := []) eX5_takeStatement dX5_takeStatement_22 (by decide +kernel) rfl rfl rfl h
theorem rX5_takeStatement_30 (l0 l1 l2 l3 l4 : Option Value) (a0 : Int32) (q : Nat) (σ : dS) : den mX5_takeStatement 30 [l0, l1, l2, l3, l4] [.int a0, .ref q] σ = if disO σ q 4 = true then ((dcall mX5_refuse [.ref q, .int a0] σ).bind fun r => den mX5_takeStatement 33 [l0, l1, l2, l3, l4] (r.1.toList ++ []) r.2) else none := by
  by_cases h : disO σ q 4 = true
  · rw [if_pos h]; exact dn_callV (e := (0, 56, 318)) (as := [.int a0]) (rest := []) eX5_takeStatement dX5_takeStatement_30 (by decide +kernel) rfl (by decide +kernel) rfl (dcat_le rfl) (dlen_le rfl) rfl h
  · rw [if_neg h]; exact den_noV (e := (0, 56, 318)) (as := [.int a0]) (rest := []) eX5_takeStatement dX5_takeStatement_30 (by decide +kernel) rfl rfl rfl h
theorem rX5_takeStatement_35 (l0 l1 l2 l3 l4 : Option Value) (q : Nat) (σ : dS) : den mX5_takeStatement 35 [l0, l1, l2, l3, l4] [.ref q] σ = if disO σ q 4 = true then ((dcall mX5_takeVariable [.ref q] σ).bind fun r => den mX5_takeStatement 38 [l0, l1, l2, l3, l4] (r.1.toList ++ []) r.2) else none := by
  by_cases h : disO σ q 4 = true
  · rw [if_pos h]; exact dn_callV (e := (0, 64, 392)) (as := []) (rest := []) eX5_takeStatement dX5_takeStatement_35 (by decide +kernel) rfl (by decide +kernel) rfl (dcat_le rfl) (dlen_le rfl) rfl h
  · rw [if_neg h]; exact den_noV (e := (0, 64, 392)) (as := []) (rest := []) eX5_takeStatement dX5_takeStatement_35 (by decide +kernel) rfl rfl rfl h
theorem rX5_takeStatement_52 (l0 l1 l2 l3 l4 : Option Value) (a0 : Int32) (q : Nat) (σ : dS) : den mX5_takeStatement 52 [l0, l1, l2, l3, l4] [.int a0, .ref q] σ = if disO σ q 4 = true then ((dcall mX5_takeSecond [.ref q, .int a0] σ).bind fun r => den mX5_takeStatement 55 [l0, l1, l2, l3, l4] (r.1.toList ++ []) r.2) else none := by
  by_cases h : disO σ q 4 = true
  · rw [if_pos h]; exact dn_callV (e := (0, 65, 396)) (as := [.int a0]) (rest := []) eX5_takeStatement dX5_takeStatement_52 (by decide +kernel) rfl (by decide +kernel) rfl (dcat_le rfl) (dlen_le rfl) rfl h
  · rw [if_neg h]; exact den_noV (e := (0, 65, 396)) (as := [.int a0]) (rest := []) eX5_takeStatement dX5_takeStatement_52 (by decide +kernel) rfl rfl rfl h
theorem rX5_takeStatement_78 (l0 l1 l2 l3 l4 : Option Value) (q : Nat) (σ : dS) : den mX5_takeStatement 78 [l0, l1, l2, l3, l4] [.ref q] σ = if disO σ q 4 = true then ((dcall mX5_takeVariable [.ref q] σ).bind fun r => den mX5_takeStatement 81 [l0, l1, l2, l3, l4] (r.1.toList ++ []) r.2) else none := by
  by_cases h : disO σ q 4 = true
  · rw [if_pos h]; exact dn_callV (e := (0, 64, 392)) (as := []) (rest := []) eX5_takeStatement dX5_takeStatement_78 (by decide +kernel) rfl (by decide +kernel) rfl (dcat_le rfl) (dlen_le rfl) rfl h
  · rw [if_neg h]; exact den_noV (e := (0, 64, 392)) (as := []) (rest := []) eX5_takeStatement dX5_takeStatement_78 (by decide +kernel) rfl rfl rfl h
theorem rX5_takeStatement_103 (l0 l1 l2 l3 l4 : Option Value) (a0 : Int32) (q : Nat) (σ : dS) : den mX5_takeStatement 103 [l0, l1, l2, l3, l4] [.int a0, .ref q] σ = if disO σ q 4 = true then ((dcall mX5_takeSign [.ref q, .int a0] σ).bind fun r => den mX5_takeStatement 106 [l0, l1, l2, l3, l4] (r.1.toList ++ []) r.2) else none := by
  by_cases h : disO σ q 4 = true
  · rw [if_pos h]; exact dn_callV (e := (0, 59, 404)) (as := [.int a0]) (rest := []) eX5_takeStatement dX5_takeStatement_103 (by decide +kernel) rfl (by decide +kernel) rfl (dcat_le rfl) (dlen_le rfl) rfl h
  · rw [if_neg h]; exact den_noV (e := (0, 59, 404)) (as := [.int a0]) (rest := []) eX5_takeStatement dX5_takeStatement_103 (by decide +kernel) rfl rfl rfl h
theorem rX5_takeStatement_142 (l0 l1 l2 l3 l4 : Option Value) (a0 : Int32) (a1 : Int32) (a2 : Int32) (a3 : Int32) (a4 : Int32) (q : Nat) (σ : dS) : den mX5_takeStatement 142 [l0, l1, l2, l3, l4] [.int a4, .int a3, .int a2, .int a1, .int a0, .ref q] σ = if disO σ q 2 = true then ((dcall mX3_append [.ref q, .int a0, .int a1, .int a2, .int a3, .int a4] σ).bind fun r => den mX5_takeStatement 145 [l0, l1, l2, l3, l4] (r.1.toList ++ []) r.2) else none := by
  by_cases h : disO σ q 2 = true
  · rw [if_pos h]; exact dn_callV (e := (0, 27, 408)) (as := [.int a0, .int a1, .int a2, .int a3, .int a4]) (rest := []) eX5_takeStatement dX5_takeStatement_142 (by decide +kernel) rfl (by decide +kernel) rfl (dcat_le rfl) (dlen_le rfl) rfl h
  · rw [if_neg h]; exact den_noV (e := (0, 27, 408)) (as := [.int a0, .int a1, .int a2, .int a3, .int a4]) (rest := []) eX5_takeStatement dX5_takeStatement_142 (by decide +kernel) rfl rfl rfl h
set_option maxRecDepth 20000 in
theorem SX5_takeStatement_0 : (∀ (l1 l2 l3 l4 : Option Value) (x : Nat) (st : List Value) (σ : dS), den mX5_takeStatement 0 [some (.ref x), l1, l2, l3, l4] st σ = den mX5_takeStatement 1 [some (.ref x), l1, l2, l3, l4] (.ref x :: st) σ) ∧
  (∀ (l0 l1 l2 l3 l4 : Option Value) (q : Nat) (σ : dS), den mX5_takeStatement 1 [l0, l1, l2, l3, l4] [.ref q] σ = if disO σ q 4 = true then ((dcall mX5_kindOfName [.ref q] σ).bind fun r => den mX5_takeStatement 4 [l0, l1, l2, l3, l4] (r.1.toList ++ []) r.2) else none) ∧
  (∀ (l1 l2 l3 l4 : Option Value) (x : Int32) (y : Nat) (st : List Value) (σ : dS), den mX5_takeStatement 4 [some (.ref y), l1, l2, l3, l4] (.int x :: st) σ = den mX5_takeStatement 5 [some (.ref y), some (.int x), l2, l3, l4] st σ) ∧
  (∀ (l0 l2 l3 l4 : Option Value) (x : Int32) (st : List Value) (σ : dS), den mX5_takeStatement 5 [l0, some (.int x), l2, l3, l4] st σ = den mX5_takeStatement 6 [l0, some (.int x), l2, l3, l4] (.int x :: st) σ) ∧
  (∀ (l0 l1 l2 l3 l4 : Option Value) (st : List Value) (σ : dS), den mX5_takeStatement 6 [l0, l1, l2, l3, l4] st σ = den mX5_takeStatement 8 [l0, l1, l2, l3, l4] (.int ((-4)) :: st) σ) ∧
  (∀ (l0 l1 l2 l3 l4 : Option Value) (x y : Int32) (st : List Value) (σ : dS), den mX5_takeStatement 8 [l0, l1, l2, l3, l4] (.int y :: .int x :: st) σ = if x = y then den mX5_takeStatement 11 [l0, l1, l2, l3, l4] st σ else den mX5_takeStatement 17 [l0, l1, l2, l3, l4] st σ) ∧
  (∀ (l1 l2 l3 l4 : Option Value) (x : Nat) (st : List Value) (σ : dS), den mX5_takeStatement 11 [some (.ref x), l1, l2, l3, l4] st σ = den mX5_takeStatement 12 [some (.ref x), l1, l2, l3, l4] (.ref x :: st) σ) ∧
  (∀ (l0 l1 l2 l3 l4 : Option Value) (st : List Value) (σ : dS), den mX5_takeStatement 12 [l0, l1, l2, l3, l4] st σ = den mX5_takeStatement 13 [l0, l1, l2, l3, l4] (.int (nI 2) :: st) σ) ∧
  (∀ (l0 l1 l2 l3 l4 : Option Value) (a0 : Int32) (q : Nat) (σ : dS), den mX5_takeStatement 13 [l0, l1, l2, l3, l4] [.int a0, .ref q] σ = if disO σ q 4 = true then ((dcall mX5_refuse [.ref q, .int a0] σ).bind fun r => den mX5_takeStatement 16 [l0, l1, l2, l3, l4] (r.1.toList ++ []) r.2) else none) ∧
  (∀ (l0 l1 l2 l3 l4 : Option Value) (v : Int32) (σ : dS), den mX5_takeStatement 16 [l0, l1, l2, l3, l4] [.int v] σ = if v = 0 ∨ v = 1 then some (some (.int v), σ) else none) ∧
  (∀ (l1 l2 l3 l4 : Option Value) (x : Nat) (st : List Value) (σ : dS), den mX5_takeStatement 17 [some (.ref x), l1, l2, l3, l4] st σ = den mX5_takeStatement 18 [some (.ref x), l1, l2, l3, l4] (.ref x :: st) σ) ∧
  (∀ (l0 l1 l2 l3 l4 : Option Value) (q : Nat) (st : List Value) (σ : dS), den mX5_takeStatement 18 [l0, l1, l2, l3, l4] (.ref q :: st) σ = (dget σ q 4 0).bind fun v => den mX5_takeStatement 21 [l0, l1, l2, l3, l4] (v :: st) σ) ∧
  (∀ (l0 l2 l3 l4 : Option Value) (x : Int32) (st : List Value) (σ : dS), den mX5_takeStatement 21 [l0, some (.int x), l2, l3, l4] st σ = den mX5_takeStatement 22 [l0, some (.int x), l2, l3, l4] (.int x :: st) σ) ∧
  (∀ (l0 l1 l2 l3 l4 : Option Value) (a0 : Int32) (q : Nat) (σ : dS), den mX5_takeStatement 22 [l0, l1, l2, l3, l4] [.int a0, .ref q] σ = if disO σ q 2 = true then ((dcall mX3_hasRoomFor [.ref q, .int a0] σ).bind fun r => den mX5_takeStatement 25 [l0, l1, l2, l3, l4] (r.1.toList ++ []) r.2) else none) ∧
  (∀ (l0 l1 l2 l3 l4 : Option Value) (x : Int32) (st : List Value) (σ : dS), den mX5_takeStatement 25 [l0, l1, l2, l3, l4] (.int x :: st) σ = if x = 0 then den mX5_takeStatement 28 [l0, l1, l2, l3, l4] st σ else den mX5_takeStatement 34 [l0, l1, l2, l3, l4] st σ) ∧
  (∀ (l1 l2 l3 l4 : Option Value) (x : Nat) (st : List Value) (σ : dS), den mX5_takeStatement 28 [some (.ref x), l1, l2, l3, l4] st σ = den mX5_takeStatement 29 [some (.ref x), l1, l2, l3, l4] (.ref x :: st) σ) ∧
  (∀ (l0 l1 l2 l3 l4 : Option Value) (st : List Value) (σ : dS), den mX5_takeStatement 29 [l0, l1, l2, l3, l4] st σ = den mX5_takeStatement 30 [l0, l1, l2, l3, l4] (.int (nI 5) :: st) σ) ∧
  (∀ (l0 l1 l2 l3 l4 : Option Value) (a0 : Int32) (q : Nat) (σ : dS), den mX5_takeStatement 30 [l0, l1, l2, l3, l4] [.int a0, .ref q] σ = if disO σ q 4 = true then ((dcall mX5_refuse [.ref q, .int a0] σ).bind fun r => den mX5_takeStatement 33 [l0, l1, l2, l3, l4] (r.1.toList ++ []) r.2) else none) ∧
  (∀ (l0 l1 l2 l3 l4 : Option Value) (v : Int32) (σ : dS), den mX5_takeStatement 33 [l0, l1, l2, l3, l4] [.int v] σ = if v = 0 ∨ v = 1 then some (some (.int v), σ) else none) ∧
  (∀ (l1 l2 l3 l4 : Option Value) (x : Nat) (st : List Value) (σ : dS), den mX5_takeStatement 34 [some (.ref x), l1, l2, l3, l4] st σ = den mX5_takeStatement 35 [some (.ref x), l1, l2, l3, l4] (.ref x :: st) σ) ∧
  (∀ (l0 l1 l2 l3 l4 : Option Value) (q : Nat) (σ : dS), den mX5_takeStatement 35 [l0, l1, l2, l3, l4] [.ref q] σ = if disO σ q 4 = true then ((dcall mX5_takeVariable [.ref q] σ).bind fun r => den mX5_takeStatement 38 [l0, l1, l2, l3, l4] (r.1.toList ++ []) r.2) else none) ∧
  (∀ (l0 l2 l3 l4 : Option Value) (x : Int32) (y : Int32) (st : List Value) (σ : dS), den mX5_takeStatement 38 [l0, some (.int y), l2, l3, l4] (.int x :: st) σ = den mX5_takeStatement 39 [l0, some (.int y), some (.int x), l3, l4] st σ) ∧
  (∀ (l0 l1 l3 l4 : Option Value) (x : Int32) (st : List Value) (σ : dS), den mX5_takeStatement 39 [l0, l1, some (.int x), l3, l4] st σ = den mX5_takeStatement 40 [l0, l1, some (.int x), l3, l4] (.int x :: st) σ) ∧
  (∀ (l0 l1 l2 l3 l4 : Option Value) (st : List Value) (σ : dS), den mX5_takeStatement 40 [l0, l1, l2, l3, l4] st σ = den mX5_takeStatement 42 [l0, l1, l2, l3, l4] (.int ((-4)) :: st) σ) ∧
  (∀ (l0 l1 l2 l3 l4 : Option Value) (x y : Int32) (st : List Value) (σ : dS), den mX5_takeStatement 42 [l0, l1, l2, l3, l4] (.int y :: .int x :: st) σ = if x = y then den mX5_takeStatement 45 [l0, l1, l2, l3, l4] st σ else den mX5_takeStatement 50 [l0, l1, l2, l3, l4] st σ) ∧
  (∀ (l0 l1 l2 l3 l4 : Option Value) (st : List Value) (σ : dS), den mX5_takeStatement 45 [l0, l1, l2, l3, l4] st σ = den mX5_takeStatement 47 [l0, l1, l2, l3, l4] (.int ((-4)) :: st) σ) ∧
  (∀ (l0 l1 l2 l3 l4 : Option Value) (st : List Value) (σ : dS), den mX5_takeStatement 47 [l0, l1, l2, l3, l4] st σ = den mX5_takeStatement 55 [l0, l1, l2, l3, l4] st σ) ∧
  (∀ (l1 l2 l3 l4 : Option Value) (x : Nat) (st : List Value) (σ : dS), den mX5_takeStatement 50 [some (.ref x), l1, l2, l3, l4] st σ = den mX5_takeStatement 51 [some (.ref x), l1, l2, l3, l4] (.ref x :: st) σ) ∧
  (∀ (l0 l2 l3 l4 : Option Value) (x : Int32) (st : List Value) (σ : dS), den mX5_takeStatement 51 [l0, some (.int x), l2, l3, l4] st σ = den mX5_takeStatement 52 [l0, some (.int x), l2, l3, l4] (.int x :: st) σ) ∧
  (∀ (l0 l1 l2 l3 l4 : Option Value) (a0 : Int32) (q : Nat) (σ : dS), den mX5_takeStatement 52 [l0, l1, l2, l3, l4] [.int a0, .ref q] σ = if disO σ q 4 = true then ((dcall mX5_takeSecond [.ref q, .int a0] σ).bind fun r => den mX5_takeStatement 55 [l0, l1, l2, l3, l4] (r.1.toList ++ []) r.2) else none) ∧
  (∀ (l0 l1 l3 l4 : Option Value) (x : Int32) (y : Int32) (st : List Value) (σ : dS), den mX5_takeStatement 55 [l0, l1, some (.int y), l3, l4] (.int x :: st) σ = den mX5_takeStatement 56 [l0, l1, some (.int y), some (.int x), l4] st σ) ∧
  (∀ (l0 l1 l2 l4 : Option Value) (x : Int32) (st : List Value) (σ : dS), den mX5_takeStatement 56 [l0, l1, l2, some (.int x), l4] st σ = den mX5_takeStatement 57 [l0, l1, l2, some (.int x), l4] (.int x :: st) σ) ∧
  (∀ (l0 l1 l2 l3 l4 : Option Value) (st : List Value) (σ : dS), den mX5_takeStatement 57 [l0, l1, l2, l3, l4] st σ = den mX5_takeStatement 59 [l0, l1, l2, l3, l4] (.int ((-4)) :: st) σ) ∧
  (∀ (l0 l1 l2 l3 l4 : Option Value) (x y : Int32) (st : List Value) (σ : dS), den mX5_takeStatement 59 [l0, l1, l2, l3, l4] (.int y :: .int x :: st) σ = if x = y then den mX5_takeStatement 62 [l0, l1, l2, l3, l4] st σ else den mX5_takeStatement 64 [l0, l1, l2, l3, l4] st σ) ∧
  (∀ (l0 l1 l2 l3 l4 : Option Value) (st : List Value) (σ : dS), den mX5_takeStatement 62 [l0, l1, l2, l3, l4] st σ = den mX5_takeStatement 63 [l0, l1, l2, l3, l4] (.int (nI 0) :: st) σ) ∧
  (∀ (l0 l1 l2 l3 l4 : Option Value) (v : Int32) (σ : dS), den mX5_takeStatement 63 [l0, l1, l2, l3, l4] [.int v] σ = if v = 0 ∨ v = 1 then some (some (.int v), σ) else none) ∧
  (∀ (l0 l2 l3 l4 : Option Value) (x : Int32) (st : List Value) (σ : dS), den mX5_takeStatement 64 [l0, some (.int x), l2, l3, l4] st σ = den mX5_takeStatement 65 [l0, some (.int x), l2, l3, l4] (.int x :: st) σ) ∧
  (∀ (l0 l1 l2 l3 l4 : Option Value) (x : Int32) (st : List Value) (σ : dS), den mX5_takeStatement 65 [l0, l1, l2, l3, l4] (.int x :: st) σ = if x = 0 then den mX5_takeStatement 73 [l0, l1, l2, l3, l4] st σ else den mX5_takeStatement 68 [l0, l1, l2, l3, l4] st σ) ∧
  (∀ (l0 l2 l3 l4 : Option Value) (x : Int32) (st : List Value) (σ : dS), den mX5_takeStatement 68 [l0, some (.int x), l2, l3, l4] st σ = den mX5_takeStatement 69 [l0, some (.int x), l2, l3, l4] (.int x :: st) σ) ∧
  (∀ (l0 l1 l2 l3 l4 : Option Value) (st : List Value) (σ : dS), den mX5_takeStatement 69 [l0, l1, l2, l3, l4] st σ = den mX5_takeStatement 70 [l0, l1, l2, l3, l4] (.int (nI 5) :: st) σ) :=
  ⟨fun l1 l2 l3 l4 x st σ => dn_aload_n eX5_takeStatement dX5_takeStatement_0 rfl,
  fun l0 l1 l2 l3 l4 q σ => rX5_takeStatement_1 l0 l1 l2 l3 l4 q σ,
  fun l1 l2 l3 l4 x y st σ => dn_istore_n eX5_takeStatement dX5_takeStatement_4 rfl,
  fun l0 l2 l3 l4 x st σ => dn_iload_n eX5_takeStatement dX5_takeStatement_5 rfl,
  fun l0 l1 l2 l3 l4 st σ => dn_bipush eX5_takeStatement dX5_takeStatement_6 kc_bipush_m4,
  fun l0 l1 l2 l3 l4 x y st σ => dn_icmp_ne eX5_takeStatement dX5_takeStatement_8 (by decide),
  fun l1 l2 l3 l4 x st σ => dn_aload_n eX5_takeStatement dX5_takeStatement_11 rfl,
  fun l0 l1 l2 l3 l4 st σ => dn_iconst eX5_takeStatement dX5_takeStatement_12 kc_iconst_2,
  fun l0 l1 l2 l3 l4 a0 q σ => rX5_takeStatement_13 l0 l1 l2 l3 l4 a0 q σ,
  fun l0 l1 l2 l3 l4 v σ => dn_zreturn eX5_takeStatement dX5_takeStatement_16 rfl,
  fun l1 l2 l3 l4 x st σ => dn_aload_n eX5_takeStatement dX5_takeStatement_17 rfl,
  fun l0 l1 l2 l3 l4 q st σ => dn_getfield (f := (4, 0, 144)) eX5_takeStatement dX5_takeStatement_18 (by decide +kernel),
  fun l0 l2 l3 l4 x st σ => dn_iload_n eX5_takeStatement dX5_takeStatement_21 rfl,
  fun l0 l1 l2 l3 l4 a0 q σ => rX5_takeStatement_22 l0 l1 l2 l3 l4 a0 q σ,
  fun l0 l1 l2 l3 l4 x st σ => dn_if_ne eX5_takeStatement dX5_takeStatement_25 (by decide),
  fun l1 l2 l3 l4 x st σ => dn_aload_n eX5_takeStatement dX5_takeStatement_28 rfl,
  fun l0 l1 l2 l3 l4 st σ => dn_iconst eX5_takeStatement dX5_takeStatement_29 kc_iconst_5,
  fun l0 l1 l2 l3 l4 a0 q σ => rX5_takeStatement_30 l0 l1 l2 l3 l4 a0 q σ,
  fun l0 l1 l2 l3 l4 v σ => dn_zreturn eX5_takeStatement dX5_takeStatement_33 rfl,
  fun l1 l2 l3 l4 x st σ => dn_aload_n eX5_takeStatement dX5_takeStatement_34 rfl,
  fun l0 l1 l2 l3 l4 q σ => rX5_takeStatement_35 l0 l1 l2 l3 l4 q σ,
  fun l0 l2 l3 l4 x y st σ => dn_istore_n eX5_takeStatement dX5_takeStatement_38 rfl,
  fun l0 l1 l3 l4 x st σ => dn_iload_n eX5_takeStatement dX5_takeStatement_39 rfl,
  fun l0 l1 l2 l3 l4 st σ => dn_bipush eX5_takeStatement dX5_takeStatement_40 kc_bipush_m4,
  fun l0 l1 l2 l3 l4 x y st σ => dn_icmp_ne eX5_takeStatement dX5_takeStatement_42 (by decide),
  fun l0 l1 l2 l3 l4 st σ => dn_bipush eX5_takeStatement dX5_takeStatement_45 kc_bipush_m4,
  fun l0 l1 l2 l3 l4 st σ => dn_goto eX5_takeStatement dX5_takeStatement_47 (by decide),
  fun l1 l2 l3 l4 x st σ => dn_aload_n eX5_takeStatement dX5_takeStatement_50 rfl,
  fun l0 l2 l3 l4 x st σ => dn_iload_n eX5_takeStatement dX5_takeStatement_51 rfl,
  fun l0 l1 l2 l3 l4 a0 q σ => rX5_takeStatement_52 l0 l1 l2 l3 l4 a0 q σ,
  fun l0 l1 l3 l4 x y st σ => dn_istore_n eX5_takeStatement dX5_takeStatement_55 rfl,
  fun l0 l1 l2 l4 x st σ => dn_iload_n eX5_takeStatement dX5_takeStatement_56 rfl,
  fun l0 l1 l2 l3 l4 st σ => dn_bipush eX5_takeStatement dX5_takeStatement_57 kc_bipush_m4,
  fun l0 l1 l2 l3 l4 x y st σ => dn_icmp_ne eX5_takeStatement dX5_takeStatement_59 (by decide),
  fun l0 l1 l2 l3 l4 st σ => dn_iconst eX5_takeStatement dX5_takeStatement_62 kc_iconst_0,
  fun l0 l1 l2 l3 l4 v σ => dn_zreturn eX5_takeStatement dX5_takeStatement_63 rfl,
  fun l0 l2 l3 l4 x st σ => dn_iload_n eX5_takeStatement dX5_takeStatement_64 rfl,
  fun l0 l1 l2 l3 l4 x st σ => dn_if_eq eX5_takeStatement dX5_takeStatement_65 (by decide),
  fun l0 l2 l3 l4 x st σ => dn_iload_n eX5_takeStatement dX5_takeStatement_68 rfl,
  fun l0 l1 l2 l3 l4 st σ => dn_iconst eX5_takeStatement dX5_takeStatement_69 kc_iconst_5⟩
set_option maxRecDepth 20000 in
theorem SX5_takeStatement_1 : (∀ (l0 l1 l2 l3 l4 : Option Value) (x y : Int32) (st : List Value) (σ : dS), den mX5_takeStatement 70 [l0, l1, l2, l3, l4] (.int y :: .int x :: st) σ = if x = y then den mX5_takeStatement 73 [l0, l1, l2, l3, l4] st σ else den mX5_takeStatement 77 [l0, l1, l2, l3, l4] st σ) ∧
  (∀ (l0 l1 l2 l3 l4 : Option Value) (st : List Value) (σ : dS), den mX5_takeStatement 73 [l0, l1, l2, l3, l4] st σ = den mX5_takeStatement 74 [l0, l1, l2, l3, l4] (.int (nI 0) :: st) σ) ∧
  (∀ (l0 l1 l2 l3 l4 : Option Value) (st : List Value) (σ : dS), den mX5_takeStatement 74 [l0, l1, l2, l3, l4] st σ = den mX5_takeStatement 81 [l0, l1, l2, l3, l4] st σ) ∧
  (∀ (l1 l2 l3 l4 : Option Value) (x : Nat) (st : List Value) (σ : dS), den mX5_takeStatement 77 [some (.ref x), l1, l2, l3, l4] st σ = den mX5_takeStatement 78 [some (.ref x), l1, l2, l3, l4] (.ref x :: st) σ) ∧
  (∀ (l0 l1 l2 l3 l4 : Option Value) (q : Nat) (σ : dS), den mX5_takeStatement 78 [l0, l1, l2, l3, l4] [.ref q] σ = if disO σ q 4 = true then ((dcall mX5_takeVariable [.ref q] σ).bind fun r => den mX5_takeStatement 81 [l0, l1, l2, l3, l4] (r.1.toList ++ []) r.2) else none) ∧
  (∀ (l0 l1 l2 l4 : Option Value) (x : Int32) (y : Int32) (st : List Value) (σ : dS), den mX5_takeStatement 81 [l0, l1, l2, some (.int y), l4] (.int x :: st) σ = den mX5_takeStatement 83 [l0, l1, l2, some (.int y), some (.int x)] st σ) ∧
  (∀ (l0 l1 l2 l3 : Option Value) (x : Int32) (st : List Value) (σ : dS), den mX5_takeStatement 83 [l0, l1, l2, l3, some (.int x)] st σ = den mX5_takeStatement 85 [l0, l1, l2, l3, some (.int x)] (.int x :: st) σ) ∧
  (∀ (l0 l1 l2 l3 l4 : Option Value) (st : List Value) (σ : dS), den mX5_takeStatement 85 [l0, l1, l2, l3, l4] st σ = den mX5_takeStatement 87 [l0, l1, l2, l3, l4] (.int ((-4)) :: st) σ) ∧
  (∀ (l0 l1 l2 l3 l4 : Option Value) (x y : Int32) (st : List Value) (σ : dS), den mX5_takeStatement 87 [l0, l1, l2, l3, l4] (.int y :: .int x :: st) σ = if x = y then den mX5_takeStatement 109 [l0, l1, l2, l3, l4] st σ else den mX5_takeStatement 90 [l0, l1, l2, l3, l4] st σ) ∧
  (∀ (l1 l2 l3 l4 : Option Value) (x : Nat) (st : List Value) (σ : dS), den mX5_takeStatement 90 [some (.ref x), l1, l2, l3, l4] st σ = den mX5_takeStatement 91 [some (.ref x), l1, l2, l3, l4] (.ref x :: st) σ) ∧
  (∀ (l0 l2 l3 l4 : Option Value) (x : Int32) (st : List Value) (σ : dS), den mX5_takeStatement 91 [l0, some (.int x), l2, l3, l4] st σ = den mX5_takeStatement 92 [l0, some (.int x), l2, l3, l4] (.int x :: st) σ) ∧
  (∀ (l0 l1 l2 l3 l4 : Option Value) (st : List Value) (σ : dS), den mX5_takeStatement 92 [l0, l1, l2, l3, l4] st σ = den mX5_takeStatement 93 [l0, l1, l2, l3, l4] (.int (nI 5) :: st) σ) ∧
  (∀ (l0 l1 l2 l3 l4 : Option Value) (x y : Int32) (st : List Value) (σ : dS), den mX5_takeStatement 93 [l0, l1, l2, l3, l4] (.int y :: .int x :: st) σ = if x = y then den mX5_takeStatement 96 [l0, l1, l2, l3, l4] st σ else den mX5_takeStatement 101 [l0, l1, l2, l3, l4] st σ) ∧
  (∀ (l0 l1 l2 l3 l4 : Option Value) (st : List Value) (σ : dS), den mX5_takeStatement 96 [l0, l1, l2, l3, l4] st σ = den mX5_takeStatement 98 [l0, l1, l2, l3, l4] (.int (nI 123) :: st) σ) ∧
  (∀ (l0 l1 l2 l3 l4 : Option Value) (st : List Value) (σ : dS), den mX5_takeStatement 98 [l0, l1, l2, l3, l4] st σ = den mX5_takeStatement 103 [l0, l1, l2, l3, l4] st σ) ∧
  (∀ (l0 l1 l2 l3 l4 : Option Value) (st : List Value) (σ : dS), den mX5_takeStatement 101 [l0, l1, l2, l3, l4] st σ = den mX5_takeStatement 103 [l0, l1, l2, l3, l4] (.int (nI 59) :: st) σ) ∧
  (∀ (l0 l1 l2 l3 l4 : Option Value) (a0 : Int32) (q : Nat) (σ : dS), den mX5_takeStatement 103 [l0, l1, l2, l3, l4] [.int a0, .ref q] σ = if disO σ q 4 = true then ((dcall mX5_takeSign [.ref q, .int a0] σ).bind fun r => den mX5_takeStatement 106 [l0, l1, l2, l3, l4] (r.1.toList ++ []) r.2) else none) ∧
  (∀ (l0 l1 l2 l3 l4 : Option Value) (x : Int32) (st : List Value) (σ : dS), den mX5_takeStatement 106 [l0, l1, l2, l3, l4] (.int x :: st) σ = if x = 0 then den mX5_takeStatement 109 [l0, l1, l2, l3, l4] st σ else den mX5_takeStatement 111 [l0, l1, l2, l3, l4] st σ) ∧
  (∀ (l0 l1 l2 l3 l4 : Option Value) (st : List Value) (σ : dS), den mX5_takeStatement 109 [l0, l1, l2, l3, l4] st σ = den mX5_takeStatement 110 [l0, l1, l2, l3, l4] (.int (nI 0) :: st) σ) ∧
  (∀ (l0 l1 l2 l3 l4 : Option Value) (v : Int32) (σ : dS), den mX5_takeStatement 110 [l0, l1, l2, l3, l4] [.int v] σ = if v = 0 ∨ v = 1 then some (some (.int v), σ) else none) ∧
  (∀ (l1 l2 l3 l4 : Option Value) (x : Nat) (st : List Value) (σ : dS), den mX5_takeStatement 111 [some (.ref x), l1, l2, l3, l4] st σ = den mX5_takeStatement 112 [some (.ref x), l1, l2, l3, l4] (.ref x :: st) σ) ∧
  (∀ (l0 l1 l2 l3 l4 : Option Value) (q : Nat) (st : List Value) (σ : dS), den mX5_takeStatement 112 [l0, l1, l2, l3, l4] (.ref q :: st) σ = (dget σ q 4 0).bind fun v => den mX5_takeStatement 115 [l0, l1, l2, l3, l4] (v :: st) σ) ∧
  (∀ (l0 l2 l3 l4 : Option Value) (x : Int32) (st : List Value) (σ : dS), den mX5_takeStatement 115 [l0, some (.int x), l2, l3, l4] st σ = den mX5_takeStatement 116 [l0, some (.int x), l2, l3, l4] (.int x :: st) σ) ∧
  (∀ (l0 l1 l3 l4 : Option Value) (x : Int32) (st : List Value) (σ : dS), den mX5_takeStatement 116 [l0, l1, some (.int x), l3, l4] st σ = den mX5_takeStatement 117 [l0, l1, some (.int x), l3, l4] (.int x :: st) σ) ∧
  (∀ (l0 l1 l2 l4 : Option Value) (x : Int32) (st : List Value) (σ : dS), den mX5_takeStatement 117 [l0, l1, l2, some (.int x), l4] st σ = den mX5_takeStatement 118 [l0, l1, l2, some (.int x), l4] (.int x :: st) σ) ∧
  (∀ (l0 l1 l2 l3 : Option Value) (x : Int32) (st : List Value) (σ : dS), den mX5_takeStatement 118 [l0, l1, l2, l3, some (.int x)] st σ = den mX5_takeStatement 120 [l0, l1, l2, l3, some (.int x)] (.int x :: st) σ) ∧
  (∀ (l1 l2 l3 l4 : Option Value) (x : Nat) (st : List Value) (σ : dS), den mX5_takeStatement 120 [some (.ref x), l1, l2, l3, l4] st σ = den mX5_takeStatement 121 [some (.ref x), l1, l2, l3, l4] (.ref x :: st) σ) ∧
  (∀ (l0 l1 l2 l3 l4 : Option Value) (q : Nat) (st : List Value) (σ : dS), den mX5_takeStatement 121 [l0, l1, l2, l3, l4] (.ref q :: st) σ = (dget σ q 4 4).bind fun v => den mX5_takeStatement 124 [l0, l1, l2, l3, l4] (v :: st) σ) ∧
  (∀ (l0 l1 l2 l3 l4 : Option Value) (x : Int32) (st : List Value) (σ : dS), den mX5_takeStatement 124 [l0, l1, l2, l3, l4] (.int x :: st) σ = if x = 0 then den mX5_takeStatement 127 [l0, l1, l2, l3, l4] st σ else den mX5_takeStatement 131 [l0, l1, l2, l3, l4] st σ) ∧
  (∀ (l0 l1 l2 l3 l4 : Option Value) (st : List Value) (σ : dS), den mX5_takeStatement 127 [l0, l1, l2, l3, l4] st σ = den mX5_takeStatement 128 [l0, l1, l2, l3, l4] (.int (nI 0) :: st) σ) ∧
  (∀ (l0 l1 l2 l3 l4 : Option Value) (st : List Value) (σ : dS), den mX5_takeStatement 128 [l0, l1, l2, l3, l4] st σ = den mX5_takeStatement 142 [l0, l1, l2, l3, l4] st σ) ∧
  (∀ (l1 l2 l3 l4 : Option Value) (x : Nat) (st : List Value) (σ : dS), den mX5_takeStatement 131 [some (.ref x), l1, l2, l3, l4] st σ = den mX5_takeStatement 132 [some (.ref x), l1, l2, l3, l4] (.ref x :: st) σ) ∧
  (∀ (l0 l1 l2 l3 l4 : Option Value) (q : Nat) (st : List Value) (σ : dS), den mX5_takeStatement 132 [l0, l1, l2, l3, l4] (.ref q :: st) σ = (dget σ q 4 2).bind fun v => den mX5_takeStatement 135 [l0, l1, l2, l3, l4] (v :: st) σ) ∧
  (∀ (l1 l2 l3 l4 : Option Value) (x : Nat) (st : List Value) (σ : dS), den mX5_takeStatement 135 [some (.ref x), l1, l2, l3, l4] st σ = den mX5_takeStatement 136 [some (.ref x), l1, l2, l3, l4] (.ref x :: st) σ) ∧
  (∀ (l0 l1 l2 l3 l4 : Option Value) (q : Nat) (st : List Value) (σ : dS), den mX5_takeStatement 136 [l0, l1, l2, l3, l4] (.ref q :: st) σ = (dget σ q 4 4).bind fun v => den mX5_takeStatement 139 [l0, l1, l2, l3, l4] (v :: st) σ) ∧
  (∀ (l0 l1 l2 l3 l4 : Option Value) (st : List Value) (σ : dS), den mX5_takeStatement 139 [l0, l1, l2, l3, l4] st σ = den mX5_takeStatement 140 [l0, l1, l2, l3, l4] (.int (nI 1) :: st) σ) ∧
  (∀ (l0 l1 l2 l3 l4 : Option Value) (x y : Int32) (st : List Value) (σ : dS), den mX5_takeStatement 140 [l0, l1, l2, l3, l4] (.int y :: .int x :: st) σ = den mX5_takeStatement 141 [l0, l1, l2, l3, l4] (.int (x - y) :: st) σ) ∧
  (∀ (l0 l1 l2 l3 l4 : Option Value) (q : Nat) (i : Int32) (st : List Value) (σ : dS), den mX5_takeStatement 141 [l0, l1, l2, l3, l4] (.int i :: .ref q :: st) σ = if q ≤ dN then (dald σ q 0 i).bind (fun v => den mX5_takeStatement 142 [l0, l1, l2, l3, l4] (.int v :: st) σ) else none) ∧
  (∀ (l0 l1 l2 l3 l4 : Option Value) (a0 : Int32) (a1 : Int32) (a2 : Int32) (a3 : Int32) (a4 : Int32) (q : Nat) (σ : dS), den mX5_takeStatement 142 [l0, l1, l2, l3, l4] [.int a4, .int a3, .int a2, .int a1, .int a0, .ref q] σ = if disO σ q 2 = true then ((dcall mX3_append [.ref q, .int a0, .int a1, .int a2, .int a3, .int a4] σ).bind fun r => den mX5_takeStatement 145 [l0, l1, l2, l3, l4] (r.1.toList ++ []) r.2) else none) ∧
  (∀ (l0 l2 l3 l4 : Option Value) (x : Int32) (st : List Value) (σ : dS), den mX5_takeStatement 145 [l0, some (.int x), l2, l3, l4] st σ = den mX5_takeStatement 146 [l0, some (.int x), l2, l3, l4] (.int x :: st) σ) :=
  ⟨fun l0 l1 l2 l3 l4 x y st σ => dn_icmp_ne eX5_takeStatement dX5_takeStatement_70 (by decide),
  fun l0 l1 l2 l3 l4 st σ => dn_iconst eX5_takeStatement dX5_takeStatement_73 kc_iconst_0,
  fun l0 l1 l2 l3 l4 st σ => dn_goto eX5_takeStatement dX5_takeStatement_74 (by decide),
  fun l1 l2 l3 l4 x st σ => dn_aload_n eX5_takeStatement dX5_takeStatement_77 rfl,
  fun l0 l1 l2 l3 l4 q σ => rX5_takeStatement_78 l0 l1 l2 l3 l4 q σ,
  fun l0 l1 l2 l4 x y st σ => dn_istore eX5_takeStatement dX5_takeStatement_81 rfl,
  fun l0 l1 l2 l3 x st σ => dn_iload eX5_takeStatement dX5_takeStatement_83 rfl,
  fun l0 l1 l2 l3 l4 st σ => dn_bipush eX5_takeStatement dX5_takeStatement_85 kc_bipush_m4,
  fun l0 l1 l2 l3 l4 x y st σ => dn_icmp_eq eX5_takeStatement dX5_takeStatement_87 (by decide),
  fun l1 l2 l3 l4 x st σ => dn_aload_n eX5_takeStatement dX5_takeStatement_90 rfl,
  fun l0 l2 l3 l4 x st σ => dn_iload_n eX5_takeStatement dX5_takeStatement_91 rfl,
  fun l0 l1 l2 l3 l4 st σ => dn_iconst eX5_takeStatement dX5_takeStatement_92 kc_iconst_5,
  fun l0 l1 l2 l3 l4 x y st σ => dn_icmp_ne eX5_takeStatement dX5_takeStatement_93 (by decide),
  fun l0 l1 l2 l3 l4 st σ => dn_bipush eX5_takeStatement dX5_takeStatement_96 kc_bipush_123,
  fun l0 l1 l2 l3 l4 st σ => dn_goto eX5_takeStatement dX5_takeStatement_98 (by decide),
  fun l0 l1 l2 l3 l4 st σ => dn_bipush eX5_takeStatement dX5_takeStatement_101 kc_bipush_59,
  fun l0 l1 l2 l3 l4 a0 q σ => rX5_takeStatement_103 l0 l1 l2 l3 l4 a0 q σ,
  fun l0 l1 l2 l3 l4 x st σ => dn_if_ne eX5_takeStatement dX5_takeStatement_106 (by decide),
  fun l0 l1 l2 l3 l4 st σ => dn_iconst eX5_takeStatement dX5_takeStatement_109 kc_iconst_0,
  fun l0 l1 l2 l3 l4 v σ => dn_zreturn eX5_takeStatement dX5_takeStatement_110 rfl,
  fun l1 l2 l3 l4 x st σ => dn_aload_n eX5_takeStatement dX5_takeStatement_111 rfl,
  fun l0 l1 l2 l3 l4 q st σ => dn_getfield (f := (4, 0, 144)) eX5_takeStatement dX5_takeStatement_112 (by decide +kernel),
  fun l0 l2 l3 l4 x st σ => dn_iload_n eX5_takeStatement dX5_takeStatement_115 rfl,
  fun l0 l1 l3 l4 x st σ => dn_iload_n eX5_takeStatement dX5_takeStatement_116 rfl,
  fun l0 l1 l2 l4 x st σ => dn_iload_n eX5_takeStatement dX5_takeStatement_117 rfl,
  fun l0 l1 l2 l3 x st σ => dn_iload eX5_takeStatement dX5_takeStatement_118 rfl,
  fun l1 l2 l3 l4 x st σ => dn_aload_n eX5_takeStatement dX5_takeStatement_120 rfl,
  fun l0 l1 l2 l3 l4 q st σ => dn_getfield (f := (4, 4, 151)) eX5_takeStatement dX5_takeStatement_121 (by decide +kernel),
  fun l0 l1 l2 l3 l4 x st σ => dn_if_ne eX5_takeStatement dX5_takeStatement_124 (by decide),
  fun l0 l1 l2 l3 l4 st σ => dn_iconst eX5_takeStatement dX5_takeStatement_127 kc_iconst_0,
  fun l0 l1 l2 l3 l4 st σ => dn_goto eX5_takeStatement dX5_takeStatement_128 (by decide),
  fun l1 l2 l3 l4 x st σ => dn_aload_n eX5_takeStatement dX5_takeStatement_131 rfl,
  fun l0 l1 l2 l3 l4 q st σ => dn_getfield (f := (4, 2, 148)) eX5_takeStatement dX5_takeStatement_132 (by decide +kernel),
  fun l1 l2 l3 l4 x st σ => dn_aload_n eX5_takeStatement dX5_takeStatement_135 rfl,
  fun l0 l1 l2 l3 l4 q st σ => dn_getfield (f := (4, 4, 151)) eX5_takeStatement dX5_takeStatement_136 (by decide +kernel),
  fun l0 l1 l2 l3 l4 st σ => dn_iconst eX5_takeStatement dX5_takeStatement_139 kc_iconst_1,
  fun l0 l1 l2 l3 l4 x y st σ => dn_isub eX5_takeStatement dX5_takeStatement_140,
  fun l0 l1 l2 l3 l4 q i st σ => dn_iaload eX5_takeStatement dX5_takeStatement_141,
  fun l0 l1 l2 l3 l4 a0 a1 a2 a3 a4 q σ => rX5_takeStatement_142 l0 l1 l2 l3 l4 a0 a1 a2 a3 a4 q σ,
  fun l0 l2 l3 l4 x st σ => dn_iload_n eX5_takeStatement dX5_takeStatement_145 rfl⟩
set_option maxRecDepth 20000 in
theorem SX5_takeStatement_2 : (∀ (l0 l1 l2 l3 l4 : Option Value) (st : List Value) (σ : dS), den mX5_takeStatement 146 [l0, l1, l2, l3, l4] st σ = den mX5_takeStatement 147 [l0, l1, l2, l3, l4] (.int (nI 5) :: st) σ) ∧
  (∀ (l0 l1 l2 l3 l4 : Option Value) (x y : Int32) (st : List Value) (σ : dS), den mX5_takeStatement 147 [l0, l1, l2, l3, l4] (.int y :: .int x :: st) σ = if x = y then den mX5_takeStatement 150 [l0, l1, l2, l3, l4] st σ else den mX5_takeStatement 180 [l0, l1, l2, l3, l4] st σ) ∧
  (∀ (l1 l2 l3 l4 : Option Value) (x : Nat) (st : List Value) (σ : dS), den mX5_takeStatement 150 [some (.ref x), l1, l2, l3, l4] st σ = den mX5_takeStatement 151 [some (.ref x), l1, l2, l3, l4] (.ref x :: st) σ) ∧
  (∀ (l0 l1 l2 l3 l4 : Option Value) (q : Nat) (st : List Value) (σ : dS), den mX5_takeStatement 151 [l0, l1, l2, l3, l4] (.ref q :: st) σ = (dget σ q 4 2).bind fun v => den mX5_takeStatement 154 [l0, l1, l2, l3, l4] (v :: st) σ) ∧
  (∀ (l1 l2 l3 l4 : Option Value) (x : Nat) (st : List Value) (σ : dS), den mX5_takeStatement 154 [some (.ref x), l1, l2, l3, l4] st σ = den mX5_takeStatement 155 [some (.ref x), l1, l2, l3, l4] (.ref x :: st) σ) ∧
  (∀ (l0 l1 l2 l3 l4 : Option Value) (q : Nat) (st : List Value) (σ : dS), den mX5_takeStatement 155 [l0, l1, l2, l3, l4] (.ref q :: st) σ = (dget σ q 4 4).bind fun v => den mX5_takeStatement 158 [l0, l1, l2, l3, l4] (v :: st) σ) ∧
  (∀ (l0 l1 l2 l3 l4 : Option Value) (st : List Value) (σ : dS), den mX5_takeStatement 158 [l0, l1, l2, l3, l4] st σ = den mX5_takeStatement 159 [l0, l1, l2, l3, l4] (.int (nI 2) :: st) σ) ∧
  (∀ (l1 l2 l3 l4 : Option Value) (x : Nat) (st : List Value) (σ : dS), den mX5_takeStatement 159 [some (.ref x), l1, l2, l3, l4] st σ = den mX5_takeStatement 160 [some (.ref x), l1, l2, l3, l4] (.ref x :: st) σ) ∧
  (∀ (l0 l1 l2 l3 l4 : Option Value) (q : Nat) (st : List Value) (σ : dS), den mX5_takeStatement 160 [l0, l1, l2, l3, l4] (.ref q :: st) σ = (dget σ q 4 0).bind fun v => den mX5_takeStatement 163 [l0, l1, l2, l3, l4] (v :: st) σ) ∧
  (∀ (l0 l1 l2 l3 l4 : Option Value) (q : Nat) (st : List Value) (σ : dS), den mX5_takeStatement 163 [l0, l1, l2, l3, l4] (.ref q :: st) σ = (dget σ q 2 8).bind fun v => den mX5_takeStatement 166 [l0, l1, l2, l3, l4] (v :: st) σ) ∧
  (∀ (l0 l1 l2 l3 l4 : Option Value) (x y : Int32) (st : List Value) (σ : dS), den mX5_takeStatement 166 [l0, l1, l2, l3, l4] (.int y :: .int x :: st) σ = den mX5_takeStatement 167 [l0, l1, l2, l3, l4] (.int (x * y) :: st) σ) ∧
  (∀ (l0 l1 l2 l3 l4 : Option Value) (st : List Value) (σ : dS), den mX5_takeStatement 167 [l0, l1, l2, l3, l4] st σ = den mX5_takeStatement 168 [l0, l1, l2, l3, l4] (.int (nI 1) :: st) σ) ∧
  (∀ (l0 l1 l2 l3 l4 : Option Value) (x y : Int32) (st : List Value) (σ : dS), den mX5_takeStatement 168 [l0, l1, l2, l3, l4] (.int y :: .int x :: st) σ = den mX5_takeStatement 169 [l0, l1, l2, l3, l4] (.int (x - y) :: st) σ) ∧
  (∀ (l0 l1 l2 l3 l4 : Option Value) (q : Nat) (i x : Int32) (st : List Value) (σ : dS), den mX5_takeStatement 169 [l0, l1, l2, l3, l4] (.int x :: .int i :: .ref q :: st) σ = (dast σ q 0 i x).bind fun τ => den mX5_takeStatement 170 [l0, l1, l2, l3, l4] st τ) ∧
  (∀ (l1 l2 l3 l4 : Option Value) (x : Nat) (st : List Value) (σ : dS), den mX5_takeStatement 170 [some (.ref x), l1, l2, l3, l4] st σ = den mX5_takeStatement 171 [some (.ref x), l1, l2, l3, l4] (.ref x :: st) σ) ∧
  (∀ (l0 l1 l2 l3 l4 : Option Value) (x : Nat) (st : List Value) (σ : dS), den mX5_takeStatement 171 [l0, l1, l2, l3, l4] (.ref x :: st) σ = den mX5_takeStatement 172 [l0, l1, l2, l3, l4] (.ref x :: .ref x :: st) σ) ∧
  (∀ (l0 l1 l2 l3 l4 : Option Value) (q : Nat) (st : List Value) (σ : dS), den mX5_takeStatement 172 [l0, l1, l2, l3, l4] (.ref q :: st) σ = (dget σ q 4 4).bind fun v => den mX5_takeStatement 175 [l0, l1, l2, l3, l4] (v :: st) σ) ∧
  (∀ (l0 l1 l2 l3 l4 : Option Value) (st : List Value) (σ : dS), den mX5_takeStatement 175 [l0, l1, l2, l3, l4] st σ = den mX5_takeStatement 176 [l0, l1, l2, l3, l4] (.int (nI 1) :: st) σ) ∧
  (∀ (l0 l1 l2 l3 l4 : Option Value) (x y : Int32) (st : List Value) (σ : dS), den mX5_takeStatement 176 [l0, l1, l2, l3, l4] (.int y :: .int x :: st) σ = den mX5_takeStatement 177 [l0, l1, l2, l3, l4] (.int (x + y) :: st) σ) ∧
  (∀ (l0 l1 l2 l3 l4 : Option Value) (x : Int32) (q : Nat) (st : List Value) (σ : dS), den mX5_takeStatement 177 [l0, l1, l2, l3, l4] (.int x :: .ref q :: st) σ = (dput σ q 4 4 (.int x)).bind fun τ => den mX5_takeStatement 180 [l0, l1, l2, l3, l4] st τ) ∧
  (∀ (l0 l1 l2 l3 l4 : Option Value) (st : List Value) (σ : dS), den mX5_takeStatement 180 [l0, l1, l2, l3, l4] st σ = den mX5_takeStatement 181 [l0, l1, l2, l3, l4] (.int (nI 1) :: st) σ) ∧
  (∀ (l0 l1 l2 l3 l4 : Option Value) (v : Int32) (σ : dS), den mX5_takeStatement 181 [l0, l1, l2, l3, l4] [.int v] σ = if v = 0 ∨ v = 1 then some (some (.int v), σ) else none) :=
  ⟨fun l0 l1 l2 l3 l4 st σ => dn_iconst eX5_takeStatement dX5_takeStatement_146 kc_iconst_5,
  fun l0 l1 l2 l3 l4 x y st σ => dn_icmp_ne eX5_takeStatement dX5_takeStatement_147 (by decide),
  fun l1 l2 l3 l4 x st σ => dn_aload_n eX5_takeStatement dX5_takeStatement_150 rfl,
  fun l0 l1 l2 l3 l4 q st σ => dn_getfield (f := (4, 2, 148)) eX5_takeStatement dX5_takeStatement_151 (by decide +kernel),
  fun l1 l2 l3 l4 x st σ => dn_aload_n eX5_takeStatement dX5_takeStatement_154 rfl,
  fun l0 l1 l2 l3 l4 q st σ => dn_getfield (f := (4, 4, 151)) eX5_takeStatement dX5_takeStatement_155 (by decide +kernel),
  fun l0 l1 l2 l3 l4 st σ => dn_iconst eX5_takeStatement dX5_takeStatement_158 kc_iconst_2,
  fun l1 l2 l3 l4 x st σ => dn_aload_n eX5_takeStatement dX5_takeStatement_159 rfl,
  fun l0 l1 l2 l3 l4 q st σ => dn_getfield (f := (4, 0, 144)) eX5_takeStatement dX5_takeStatement_160 (by decide +kernel),
  fun l0 l1 l2 l3 l4 q st σ => dn_getfield (f := (2, 8, 117)) eX5_takeStatement dX5_takeStatement_163 (by decide +kernel),
  fun l0 l1 l2 l3 l4 x y st σ => dn_imul eX5_takeStatement dX5_takeStatement_166,
  fun l0 l1 l2 l3 l4 st σ => dn_iconst eX5_takeStatement dX5_takeStatement_167 kc_iconst_1,
  fun l0 l1 l2 l3 l4 x y st σ => dn_isub eX5_takeStatement dX5_takeStatement_168,
  fun l0 l1 l2 l3 l4 q i x st σ => dn_iastore eX5_takeStatement dX5_takeStatement_169,
  fun l1 l2 l3 l4 x st σ => dn_aload_n eX5_takeStatement dX5_takeStatement_170 rfl,
  fun l0 l1 l2 l3 l4 x st σ => dn_dup eX5_takeStatement dX5_takeStatement_171 rfl,
  fun l0 l1 l2 l3 l4 q st σ => dn_getfield (f := (4, 4, 151)) eX5_takeStatement dX5_takeStatement_172 (by decide +kernel),
  fun l0 l1 l2 l3 l4 st σ => dn_iconst eX5_takeStatement dX5_takeStatement_175 kc_iconst_1,
  fun l0 l1 l2 l3 l4 x y st σ => dn_iadd eX5_takeStatement dX5_takeStatement_176,
  fun l0 l1 l2 l3 l4 x q st σ => dn_putfield (f := (4, 4, 151)) (ty := .int) eX5_takeStatement dX5_takeStatement_177 (by decide +kernel) (by decide +kernel) rfl,
  fun l0 l1 l2 l3 l4 st σ => dn_iconst eX5_takeStatement dX5_takeStatement_180 kc_iconst_1,
  fun l0 l1 l2 l3 l4 v σ => dn_zreturn eX5_takeStatement dX5_takeStatement_181 rfl⟩
theorem CX5_takeAll (a0 : Nat) (σ : dS) : dcall mX5_takeAll [.ref a0] σ = den mX5_takeAll 0 [some (.ref a0), none, none] [] σ := dcall_den (by decide) rfl
theorem rX5_takeAll_19 (l0 l1 l2 : Option Value) (q : Nat) (σ : dS) : den mX5_takeAll 19 [l0, l1, l2] [.ref q] σ = if disO σ q 2 = true then ((dcall mX3_clear [.ref q] σ).bind fun r => den mX5_takeAll 22 [l0, l1, l2] (r.1.toList ++ []) r.2) else none := by
  by_cases h : disO σ q 2 = true
  · rw [if_pos h]; exact dn_callV (e := (0, 24, 306)) (as := []) (rest := []) eX5_takeAll dX5_takeAll_19 (by decide +kernel) rfl (by decide +kernel) rfl (dcat_le rfl) (dlen_le rfl) rfl h
  · rw [if_neg h]; exact den_noV (e := (0, 24, 306)) (as := []) (rest := []) eX5_takeAll dX5_takeAll_19 (by decide +kernel) rfl rfl rfl h
theorem hX5_takeAll_24 (l0 l2 : Option Value) (x : Int32) (st : List Value) (σ : dS) : den mX5_takeAll 24 [l0, some (.int x), l2] st σ = den mX5_takeAll 25 [l0, some (.int x), l2] (.int x :: st) σ := dn_iload_n eX5_takeAll dX5_takeAll_24 rfl
theorem rX5_takeAll_32 (l0 l1 l2 : Option Value) (q : Nat) (σ : dS) : den mX5_takeAll 32 [l0, l1, l2] [.ref q] σ = if disO σ q 4 = true then ((dcall mX5_readToken [.ref q] σ).bind fun r => den mX5_takeAll 35 [l0, l1, l2] (r.1.toList ++ []) r.2) else none := by
  by_cases h : disO σ q 4 = true
  · rw [if_pos h]; exact dn_callV (e := (0, 58, 310)) (as := []) (rest := []) eX5_takeAll dX5_takeAll_32 (by decide +kernel) rfl (by decide +kernel) rfl (dcat_le rfl) (dlen_le rfl) rfl h
  · rw [if_neg h]; exact den_noV (e := (0, 58, 310)) (as := []) (rest := []) eX5_takeAll dX5_takeAll_32 (by decide +kernel) rfl rfl rfl h
theorem rX5_takeAll_65 (l0 l1 l2 : Option Value) (q : Nat) (σ : dS) : den mX5_takeAll 65 [l0, l1, l2] [.ref q] σ = if disO σ q 4 = true then ((dcall mX5_takeStatement [.ref q] σ).bind fun r => den mX5_takeAll 68 [l0, l1, l2] (r.1.toList ++ []) r.2) else none := by
  by_cases h : disO σ q 4 = true
  · rw [if_pos h]; exact dn_callV (e := (0, 66, 322)) (as := []) (rest := []) eX5_takeAll dX5_takeAll_65 (by decide +kernel) rfl (by decide +kernel) rfl (dcat_le rfl) (dlen_le rfl) rfl h
  · rw [if_neg h]; exact den_noV (e := (0, 66, 322)) (as := []) (rest := []) eX5_takeAll dX5_takeAll_65 (by decide +kernel) rfl rfl rfl h
theorem rX5_takeAll_72 (l0 l1 l2 : Option Value) (q : Nat) (σ : dS) : den mX5_takeAll 72 [l0, l1, l2] [.ref q] σ = if disO σ q 4 = true then ((dcall mX5_closeSide [.ref q] σ).bind fun r => den mX5_takeAll 75 [l0, l1, l2] (r.1.toList ++ []) r.2) else none := by
  by_cases h : disO σ q 4 = true
  · rw [if_pos h]; exact dn_callV (e := (0, 60, 412)) (as := []) (rest := []) eX5_takeAll dX5_takeAll_72 (by decide +kernel) rfl (by decide +kernel) rfl (dcat_le rfl) (dlen_le rfl) rfl h
  · rw [if_neg h]; exact den_noV (e := (0, 60, 412)) (as := []) (rest := []) eX5_takeAll dX5_takeAll_72 (by decide +kernel) rfl rfl rfl h
theorem rX5_takeAll_90 (l0 l1 l2 : Option Value) (a0 : Int32) (q : Nat) (σ : dS) : den mX5_takeAll 90 [l0, l1, l2] [.int a0, .ref q] σ = if disO σ q 4 = true then ((dcall mX5_refuse [.ref q, .int a0] σ).bind fun r => den mX5_takeAll 93 [l0, l1, l2] (r.1.toList ++ []) r.2) else none := by
  by_cases h : disO σ q 4 = true
  · rw [if_pos h]; exact dn_callV (e := (0, 56, 318)) (as := [.int a0]) (rest := []) eX5_takeAll dX5_takeAll_90 (by decide +kernel) rfl (by decide +kernel) rfl (dcat_le rfl) (dlen_le rfl) rfl h
  · rw [if_neg h]; exact den_noV (e := (0, 56, 318)) (as := [.int a0]) (rest := []) eX5_takeAll dX5_takeAll_90 (by decide +kernel) rfl rfl rfl h
set_option maxRecDepth 20000 in
theorem SX5_takeAll_0 : (∀ (l1 l2 : Option Value) (x : Nat) (st : List Value) (σ : dS), den mX5_takeAll 0 [some (.ref x), l1, l2] st σ = den mX5_takeAll 1 [some (.ref x), l1, l2] (.ref x :: st) σ) ∧
  (∀ (l0 l1 l2 : Option Value) (st : List Value) (σ : dS), den mX5_takeAll 1 [l0, l1, l2] st σ = den mX5_takeAll 2 [l0, l1, l2] (.int (nI 0) :: st) σ) ∧
  (∀ (l0 l1 l2 : Option Value) (x : Int32) (q : Nat) (st : List Value) (σ : dS), den mX5_takeAll 2 [l0, l1, l2] (.int x :: .ref q :: st) σ = (dput σ q 4 4 (.int x)).bind fun τ => den mX5_takeAll 5 [l0, l1, l2] st τ) ∧
  (∀ (l1 l2 : Option Value) (x : Nat) (st : List Value) (σ : dS), den mX5_takeAll 5 [some (.ref x), l1, l2] st σ = den mX5_takeAll 6 [some (.ref x), l1, l2] (.ref x :: st) σ) ∧
  (∀ (l0 l1 l2 : Option Value) (st : List Value) (σ : dS), den mX5_takeAll 6 [l0, l1, l2] st σ = den mX5_takeAll 7 [l0, l1, l2] (.int (nI 0) :: st) σ) ∧
  (∀ (l0 l1 l2 : Option Value) (x : Int32) (q : Nat) (st : List Value) (σ : dS), den mX5_takeAll 7 [l0, l1, l2] (.int x :: .ref q :: st) σ = (dput σ q 4 7 (.int x)).bind fun τ => den mX5_takeAll 10 [l0, l1, l2] st τ) ∧
  (∀ (l1 l2 : Option Value) (x : Nat) (st : List Value) (σ : dS), den mX5_takeAll 10 [some (.ref x), l1, l2] st σ = den mX5_takeAll 11 [some (.ref x), l1, l2] (.ref x :: st) σ) ∧
  (∀ (l0 l1 l2 : Option Value) (st : List Value) (σ : dS), den mX5_takeAll 11 [l0, l1, l2] st σ = den mX5_takeAll 12 [l0, l1, l2] (.int (nI 0) :: st) σ) ∧
  (∀ (l0 l1 l2 : Option Value) (x : Int32) (q : Nat) (st : List Value) (σ : dS), den mX5_takeAll 12 [l0, l1, l2] (.int x :: .ref q :: st) σ = (dput σ q 4 8 (.int x)).bind fun τ => den mX5_takeAll 15 [l0, l1, l2] st τ) ∧
  (∀ (l1 l2 : Option Value) (x : Nat) (st : List Value) (σ : dS), den mX5_takeAll 15 [some (.ref x), l1, l2] st σ = den mX5_takeAll 16 [some (.ref x), l1, l2] (.ref x :: st) σ) ∧
  (∀ (l0 l1 l2 : Option Value) (q : Nat) (st : List Value) (σ : dS), den mX5_takeAll 16 [l0, l1, l2] (.ref q :: st) σ = (dget σ q 4 0).bind fun v => den mX5_takeAll 19 [l0, l1, l2] (v :: st) σ) ∧
  (∀ (l0 l1 l2 : Option Value) (q : Nat) (σ : dS), den mX5_takeAll 19 [l0, l1, l2] [.ref q] σ = if disO σ q 2 = true then ((dcall mX3_clear [.ref q] σ).bind fun r => den mX5_takeAll 22 [l0, l1, l2] (r.1.toList ++ []) r.2) else none) ∧
  (∀ (l0 l1 l2 : Option Value) (st : List Value) (σ : dS), den mX5_takeAll 22 [l0, l1, l2] st σ = den mX5_takeAll 23 [l0, l1, l2] (.int (nI 0) :: st) σ) ∧
  (∀ (l1 l2 : Option Value) (x : Int32) (y : Nat) (st : List Value) (σ : dS), den mX5_takeAll 23 [some (.ref y), l1, l2] (.int x :: st) σ = den mX5_takeAll 24 [some (.ref y), some (.int x), l2] st σ) ∧
  (∀ (l0 l1 l2 : Option Value) (st : List Value) (σ : dS), den mX5_takeAll 25 [l0, l1, l2] st σ = den mX5_takeAll 28 [l0, l1, l2] (.int (nI 320) :: st) σ) ∧
  (∀ (l0 l1 l2 : Option Value) (x y : Int32) (st : List Value) (σ : dS), den mX5_takeAll 28 [l0, l1, l2] (.int y :: .int x :: st) σ = if y < x then den mX5_takeAll 88 [l0, l1, l2] st σ else den mX5_takeAll 31 [l0, l1, l2] st σ) ∧
  (∀ (l1 l2 : Option Value) (x : Nat) (st : List Value) (σ : dS), den mX5_takeAll 31 [some (.ref x), l1, l2] st σ = den mX5_takeAll 32 [some (.ref x), l1, l2] (.ref x :: st) σ) ∧
  (∀ (l0 l1 l2 : Option Value) (q : Nat) (σ : dS), den mX5_takeAll 32 [l0, l1, l2] [.ref q] σ = if disO σ q 4 = true then ((dcall mX5_readToken [.ref q] σ).bind fun r => den mX5_takeAll 35 [l0, l1, l2] (r.1.toList ++ []) r.2) else none) ∧
  (∀ (l0 l1 l2 : Option Value) (x : Int32) (st : List Value) (σ : dS), den mX5_takeAll 35 [l0, l1, l2] (.int x :: st) σ = if x = 0 then den mX5_takeAll 38 [l0, l1, l2] st σ else den mX5_takeAll 40 [l0, l1, l2] st σ) ∧
  (∀ (l0 l1 l2 : Option Value) (st : List Value) (σ : dS), den mX5_takeAll 38 [l0, l1, l2] st σ = den mX5_takeAll 39 [l0, l1, l2] (.int (nI 0) :: st) σ) ∧
  (∀ (l0 l1 l2 : Option Value) (v : Int32) (σ : dS), den mX5_takeAll 39 [l0, l1, l2] [.int v] σ = if v = 0 ∨ v = 1 then some (some (.int v), σ) else none) ∧
  (∀ (l1 l2 : Option Value) (x : Nat) (st : List Value) (σ : dS), den mX5_takeAll 40 [some (.ref x), l1, l2] st σ = den mX5_takeAll 41 [some (.ref x), l1, l2] (.ref x :: st) σ) ∧
  (∀ (l0 l1 l2 : Option Value) (q : Nat) (st : List Value) (σ : dS), den mX5_takeAll 41 [l0, l1, l2] (.ref q :: st) σ = (dget σ q 4 5).bind fun v => den mX5_takeAll 44 [l0, l1, l2] (v :: st) σ) ∧
  (∀ (l0 l1 l2 : Option Value) (x : Int32) (st : List Value) (σ : dS), den mX5_takeAll 44 [l0, l1, l2] (.int x :: st) σ = if x = 0 then den mX5_takeAll 47 [l0, l1, l2] st σ else den mX5_takeAll 56 [l0, l1, l2] st σ) ∧
  (∀ (l1 l2 : Option Value) (x : Nat) (st : List Value) (σ : dS), den mX5_takeAll 47 [some (.ref x), l1, l2] st σ = den mX5_takeAll 48 [some (.ref x), l1, l2] (.ref x :: st) σ) ∧
  (∀ (l0 l1 l2 : Option Value) (q : Nat) (st : List Value) (σ : dS), den mX5_takeAll 48 [l0, l1, l2] (.ref q :: st) σ = (dget σ q 4 4).bind fun v => den mX5_takeAll 51 [l0, l1, l2] (v :: st) σ) ∧
  (∀ (l0 l1 l2 : Option Value) (x : Int32) (st : List Value) (σ : dS), den mX5_takeAll 51 [l0, l1, l2] (.int x :: st) σ = if x = 0 then den mX5_takeAll 54 [l0, l1, l2] st σ else den mX5_takeAll 56 [l0, l1, l2] st σ) ∧
  (∀ (l0 l1 l2 : Option Value) (st : List Value) (σ : dS), den mX5_takeAll 54 [l0, l1, l2] st σ = den mX5_takeAll 55 [l0, l1, l2] (.int (nI 1) :: st) σ) ∧
  (∀ (l0 l1 l2 : Option Value) (v : Int32) (σ : dS), den mX5_takeAll 55 [l0, l1, l2] [.int v] σ = if v = 0 ∨ v = 1 then some (some (.int v), σ) else none) ∧
  (∀ (l1 l2 : Option Value) (x : Nat) (st : List Value) (σ : dS), den mX5_takeAll 56 [some (.ref x), l1, l2] st σ = den mX5_takeAll 57 [some (.ref x), l1, l2] (.ref x :: st) σ) ∧
  (∀ (l0 l1 l2 : Option Value) (q : Nat) (st : List Value) (σ : dS), den mX5_takeAll 57 [l0, l1, l2] (.ref q :: st) σ = (dget σ q 4 5).bind fun v => den mX5_takeAll 60 [l0, l1, l2] (v :: st) σ) ∧
  (∀ (l0 l1 l2 : Option Value) (st : List Value) (σ : dS), den mX5_takeAll 60 [l0, l1, l2] st σ = den mX5_takeAll 61 [l0, l1, l2] (.int (nI 1) :: st) σ) ∧
  (∀ (l0 l1 l2 : Option Value) (x y : Int32) (st : List Value) (σ : dS), den mX5_takeAll 61 [l0, l1, l2] (.int y :: .int x :: st) σ = if x = y then den mX5_takeAll 64 [l0, l1, l2] st σ else den mX5_takeAll 71 [l0, l1, l2] st σ) ∧
  (∀ (l1 l2 : Option Value) (x : Nat) (st : List Value) (σ : dS), den mX5_takeAll 64 [some (.ref x), l1, l2] st σ = den mX5_takeAll 65 [some (.ref x), l1, l2] (.ref x :: st) σ) ∧
  (∀ (l0 l1 l2 : Option Value) (q : Nat) (σ : dS), den mX5_takeAll 65 [l0, l1, l2] [.ref q] σ = if disO σ q 4 = true then ((dcall mX5_takeStatement [.ref q] σ).bind fun r => den mX5_takeAll 68 [l0, l1, l2] (r.1.toList ++ []) r.2) else none) ∧
  (∀ (l0 l1 l2 : Option Value) (st : List Value) (σ : dS), den mX5_takeAll 68 [l0, l1, l2] st σ = den mX5_takeAll 75 [l0, l1, l2] st σ) ∧
  (∀ (l1 l2 : Option Value) (x : Nat) (st : List Value) (σ : dS), den mX5_takeAll 71 [some (.ref x), l1, l2] st σ = den mX5_takeAll 72 [some (.ref x), l1, l2] (.ref x :: st) σ) ∧
  (∀ (l0 l1 l2 : Option Value) (q : Nat) (σ : dS), den mX5_takeAll 72 [l0, l1, l2] [.ref q] σ = if disO σ q 4 = true then ((dcall mX5_closeSide [.ref q] σ).bind fun r => den mX5_takeAll 75 [l0, l1, l2] (r.1.toList ++ []) r.2) else none) ∧
  (∀ (l0 l2 : Option Value) (x : Int32) (y : Int32) (st : List Value) (σ : dS), den mX5_takeAll 75 [l0, some (.int y), l2] (.int x :: st) σ = den mX5_takeAll 76 [l0, some (.int y), some (.int x)] st σ) ∧
  (∀ (l0 l1 : Option Value) (x : Int32) (st : List Value) (σ : dS), den mX5_takeAll 76 [l0, l1, some (.int x)] st σ = den mX5_takeAll 77 [l0, l1, some (.int x)] (.int x :: st) σ) :=
  ⟨fun l1 l2 x st σ => dn_aload_n eX5_takeAll dX5_takeAll_0 rfl,
  fun l0 l1 l2 st σ => dn_iconst eX5_takeAll dX5_takeAll_1 kc_iconst_0,
  fun l0 l1 l2 x q st σ => dn_putfield (f := (4, 4, 151)) (ty := .int) eX5_takeAll dX5_takeAll_2 (by decide +kernel) (by decide +kernel) rfl,
  fun l1 l2 x st σ => dn_aload_n eX5_takeAll dX5_takeAll_5 rfl,
  fun l0 l1 l2 st σ => dn_iconst eX5_takeAll dX5_takeAll_6 kc_iconst_0,
  fun l0 l1 l2 x q st σ => dn_putfield (f := (4, 7, 154)) (ty := .int) eX5_takeAll dX5_takeAll_7 (by decide +kernel) (by decide +kernel) rfl,
  fun l1 l2 x st σ => dn_aload_n eX5_takeAll dX5_takeAll_10 rfl,
  fun l0 l1 l2 st σ => dn_iconst eX5_takeAll dX5_takeAll_11 kc_iconst_0,
  fun l0 l1 l2 x q st σ => dn_putfield (f := (4, 8, 155)) (ty := .int) eX5_takeAll dX5_takeAll_12 (by decide +kernel) (by decide +kernel) rfl,
  fun l1 l2 x st σ => dn_aload_n eX5_takeAll dX5_takeAll_15 rfl,
  fun l0 l1 l2 q st σ => dn_getfield (f := (4, 0, 144)) eX5_takeAll dX5_takeAll_16 (by decide +kernel),
  fun l0 l1 l2 q σ => rX5_takeAll_19 l0 l1 l2 q σ,
  fun l0 l1 l2 st σ => dn_iconst eX5_takeAll dX5_takeAll_22 kc_iconst_0,
  fun l1 l2 x y st σ => dn_istore_n eX5_takeAll dX5_takeAll_23 rfl,
  fun l0 l1 l2 st σ => dn_sipush eX5_takeAll dX5_takeAll_25 kc_sipush_320,
  fun l0 l1 l2 x y st σ => dn_icmp_gt eX5_takeAll dX5_takeAll_28 (by decide),
  fun l1 l2 x st σ => dn_aload_n eX5_takeAll dX5_takeAll_31 rfl,
  fun l0 l1 l2 q σ => rX5_takeAll_32 l0 l1 l2 q σ,
  fun l0 l1 l2 x st σ => dn_if_ne eX5_takeAll dX5_takeAll_35 (by decide),
  fun l0 l1 l2 st σ => dn_iconst eX5_takeAll dX5_takeAll_38 kc_iconst_0,
  fun l0 l1 l2 v σ => dn_zreturn eX5_takeAll dX5_takeAll_39 rfl,
  fun l1 l2 x st σ => dn_aload_n eX5_takeAll dX5_takeAll_40 rfl,
  fun l0 l1 l2 q st σ => dn_getfield (f := (4, 5, 152)) eX5_takeAll dX5_takeAll_41 (by decide +kernel),
  fun l0 l1 l2 x st σ => dn_if_ne eX5_takeAll dX5_takeAll_44 (by decide),
  fun l1 l2 x st σ => dn_aload_n eX5_takeAll dX5_takeAll_47 rfl,
  fun l0 l1 l2 q st σ => dn_getfield (f := (4, 4, 151)) eX5_takeAll dX5_takeAll_48 (by decide +kernel),
  fun l0 l1 l2 x st σ => dn_if_ne eX5_takeAll dX5_takeAll_51 (by decide),
  fun l0 l1 l2 st σ => dn_iconst eX5_takeAll dX5_takeAll_54 kc_iconst_1,
  fun l0 l1 l2 v σ => dn_zreturn eX5_takeAll dX5_takeAll_55 rfl,
  fun l1 l2 x st σ => dn_aload_n eX5_takeAll dX5_takeAll_56 rfl,
  fun l0 l1 l2 q st σ => dn_getfield (f := (4, 5, 152)) eX5_takeAll dX5_takeAll_57 (by decide +kernel),
  fun l0 l1 l2 st σ => dn_iconst eX5_takeAll dX5_takeAll_60 kc_iconst_1,
  fun l0 l1 l2 x y st σ => dn_icmp_ne eX5_takeAll dX5_takeAll_61 (by decide),
  fun l1 l2 x st σ => dn_aload_n eX5_takeAll dX5_takeAll_64 rfl,
  fun l0 l1 l2 q σ => rX5_takeAll_65 l0 l1 l2 q σ,
  fun l0 l1 l2 st σ => dn_goto eX5_takeAll dX5_takeAll_68 (by decide),
  fun l1 l2 x st σ => dn_aload_n eX5_takeAll dX5_takeAll_71 rfl,
  fun l0 l1 l2 q σ => rX5_takeAll_72 l0 l1 l2 q σ,
  fun l0 l2 x y st σ => dn_istore_n eX5_takeAll dX5_takeAll_75 rfl,
  fun l0 l1 x st σ => dn_iload_n eX5_takeAll dX5_takeAll_76 rfl⟩
set_option maxRecDepth 20000 in
theorem SX5_takeAll_1 : (∀ (l0 l1 l2 : Option Value) (x : Int32) (st : List Value) (σ : dS), den mX5_takeAll 77 [l0, l1, l2] (.int x :: st) σ = if x = 0 then den mX5_takeAll 80 [l0, l1, l2] st σ else den mX5_takeAll 82 [l0, l1, l2] st σ) ∧
  (∀ (l0 l1 l2 : Option Value) (st : List Value) (σ : dS), den mX5_takeAll 80 [l0, l1, l2] st σ = den mX5_takeAll 81 [l0, l1, l2] (.int (nI 0) :: st) σ) ∧
  (∀ (l0 l1 l2 : Option Value) (v : Int32) (σ : dS), den mX5_takeAll 81 [l0, l1, l2] [.int v] σ = if v = 0 ∨ v = 1 then some (some (.int v), σ) else none) ∧
  (∀ (l2 : Option Value) (x : Int32) (y : Nat) (st : List Value) (σ : dS), den mX5_takeAll 82 [some (.ref y), some (.int x), l2] st σ = den mX5_takeAll 85 [some (.ref y), some (.int (x + nI 1)), l2] st σ) ∧
  (∀ (l0 l1 l2 : Option Value) (st : List Value) (σ : dS), den mX5_takeAll 85 [l0, l1, l2] st σ = den mX5_takeAll 24 [l0, l1, l2] st σ) ∧
  (∀ (l1 l2 : Option Value) (x : Nat) (st : List Value) (σ : dS), den mX5_takeAll 88 [some (.ref x), l1, l2] st σ = den mX5_takeAll 89 [some (.ref x), l1, l2] (.ref x :: st) σ) ∧
  (∀ (l0 l1 l2 : Option Value) (st : List Value) (σ : dS), den mX5_takeAll 89 [l0, l1, l2] st σ = den mX5_takeAll 90 [l0, l1, l2] (.int (nI 2) :: st) σ) ∧
  (∀ (l0 l1 l2 : Option Value) (a0 : Int32) (q : Nat) (σ : dS), den mX5_takeAll 90 [l0, l1, l2] [.int a0, .ref q] σ = if disO σ q 4 = true then ((dcall mX5_refuse [.ref q, .int a0] σ).bind fun r => den mX5_takeAll 93 [l0, l1, l2] (r.1.toList ++ []) r.2) else none) ∧
  (∀ (l0 l1 l2 : Option Value) (v : Int32) (σ : dS), den mX5_takeAll 93 [l0, l1, l2] [.int v] σ = if v = 0 ∨ v = 1 then some (some (.int v), σ) else none) :=
  ⟨fun l0 l1 l2 x st σ => dn_if_ne eX5_takeAll dX5_takeAll_77 (by decide),
  fun l0 l1 l2 st σ => dn_iconst eX5_takeAll dX5_takeAll_80 kc_iconst_0,
  fun l0 l1 l2 v σ => dn_zreturn eX5_takeAll dX5_takeAll_81 rfl,
  fun l2 x y st σ => dn_iinc (v := nI 1) eX5_takeAll dX5_takeAll_82 rfl kc_iconst_1 rfl,
  fun l0 l1 l2 st σ => dn_goto eX5_takeAll dX5_takeAll_85 (by decide),
  fun l1 l2 x st σ => dn_aload_n eX5_takeAll dX5_takeAll_88 rfl,
  fun l0 l1 l2 st σ => dn_iconst eX5_takeAll dX5_takeAll_89 kc_iconst_2,
  fun l0 l1 l2 a0 q σ => rX5_takeAll_90 l0 l1 l2 a0 q σ,
  fun l0 l1 l2 v σ => dn_zreturn eX5_takeAll dX5_takeAll_93 rfl⟩

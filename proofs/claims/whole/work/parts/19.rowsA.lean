theorem CJ7_fill_53178 (a0 : Nat) (a1 : Int32) (σ : dS) : dcall mJ7_fill_53178 [.ref a0, .int a1] σ = den mJ7_fill_53178 0 [some (.ref a0), some (.int a1), none, none] [] σ := dcall_den (by decide) rfl
theorem hJ7_fill_53178_5 (l0 l1 l3 : Option Value) (x : Int32) (st : List Value) (σ : dS) : den mJ7_fill_53178 5 [l0, l1, some (.int x), l3] st σ = den mJ7_fill_53178 6 [l0, l1, some (.int x), l3] (.int x :: st) σ := dn_iload_n eJ7_fill_53178 dJ7_fill_53178_5 rfl
set_option maxRecDepth 20000 in
theorem SJ7_fill_53178 : (∀ (l0 l1 l2 l3 : Option Value) (st : List Value) (σ : dS), den mJ7_fill_53178 0 [l0, l1, l2, l3] st σ = den mJ7_fill_53178 1 [l0, l1, l2, l3] (.int (nI 0) :: st) σ) ∧
  (∀ (l0 l2 l3 : Option Value) (x : Int32) (y : Int32) (st : List Value) (σ : dS), den mJ7_fill_53178 1 [l0, some (.int y), l2, l3] (.int x :: st) σ = den mJ7_fill_53178 2 [l0, some (.int y), some (.int x), l3] st σ) ∧
  (∀ (l1 l2 l3 : Option Value) (x : Nat) (st : List Value) (σ : dS), den mJ7_fill_53178 2 [some (.ref x), l1, l2, l3] st σ = den mJ7_fill_53178 3 [some (.ref x), l1, l2, l3] (.ref x :: st) σ) ∧
  (∀ (l0 l1 l2 l3 : Option Value) (q : Nat) (st : List Value) (σ : dS), den mJ7_fill_53178 3 [l0, l1, l2, l3] (.ref q :: st) σ = (dalen σ q).bind fun v => den mJ7_fill_53178 4 [l0, l1, l2, l3] (.int v :: st) σ) ∧
  (∀ (l0 l1 l3 : Option Value) (x : Int32) (y : Int32) (st : List Value) (σ : dS), den mJ7_fill_53178 4 [l0, l1, some (.int y), l3] (.int x :: st) σ = den mJ7_fill_53178 5 [l0, l1, some (.int y), some (.int x)] st σ) ∧
  (∀ (l0 l1 l2 : Option Value) (x : Int32) (st : List Value) (σ : dS), den mJ7_fill_53178 6 [l0, l1, l2, some (.int x)] st σ = den mJ7_fill_53178 7 [l0, l1, l2, some (.int x)] (.int x :: st) σ) ∧
  (∀ (l0 l1 l2 l3 : Option Value) (x y : Int32) (st : List Value) (σ : dS), den mJ7_fill_53178 7 [l0, l1, l2, l3] (.int y :: .int x :: st) σ = if x < y then den mJ7_fill_53178 10 [l0, l1, l2, l3] st σ else den mJ7_fill_53178 20 [l0, l1, l2, l3] st σ) ∧
  (∀ (l1 l2 l3 : Option Value) (x : Nat) (st : List Value) (σ : dS), den mJ7_fill_53178 10 [some (.ref x), l1, l2, l3] st σ = den mJ7_fill_53178 11 [some (.ref x), l1, l2, l3] (.ref x :: st) σ) ∧
  (∀ (l0 l1 l3 : Option Value) (x : Int32) (st : List Value) (σ : dS), den mJ7_fill_53178 11 [l0, l1, some (.int x), l3] st σ = den mJ7_fill_53178 12 [l0, l1, some (.int x), l3] (.int x :: st) σ) ∧
  (∀ (l0 l2 l3 : Option Value) (x : Int32) (st : List Value) (σ : dS), den mJ7_fill_53178 12 [l0, some (.int x), l2, l3] st σ = den mJ7_fill_53178 13 [l0, some (.int x), l2, l3] (.int x :: st) σ) ∧
  (∀ (l0 l1 l2 l3 : Option Value) (q : Nat) (i x : Int32) (st : List Value) (σ : dS), den mJ7_fill_53178 13 [l0, l1, l2, l3] (.int x :: .int i :: .ref q :: st) σ = (dast σ q 0 i x).bind fun τ => den mJ7_fill_53178 14 [l0, l1, l2, l3] st τ) ∧
  (∀ (l0 l3 : Option Value) (x : Int32) (y : Int32) (st : List Value) (σ : dS), den mJ7_fill_53178 14 [l0, some (.int y), some (.int x), l3] st σ = den mJ7_fill_53178 17 [l0, some (.int y), some (.int (x + nI 1)), l3] st σ) ∧
  (∀ (l0 l1 l2 l3 : Option Value) (st : List Value) (σ : dS), den mJ7_fill_53178 17 [l0, l1, l2, l3] st σ = den mJ7_fill_53178 5 [l0, l1, l2, l3] st σ) ∧
  (∀ (l0 l1 l2 l3 : Option Value) (σ : dS), den mJ7_fill_53178 20 [l0, l1, l2, l3] [] σ = some (none, σ)) :=
  ⟨fun l0 l1 l2 l3 st σ => dn_iconst eJ7_fill_53178 dJ7_fill_53178_0 kc_iconst_0,
  fun l0 l2 l3 x y st σ => dn_istore_n eJ7_fill_53178 dJ7_fill_53178_1 rfl,
  fun l1 l2 l3 x st σ => dn_aload_n eJ7_fill_53178 dJ7_fill_53178_2 rfl,
  fun l0 l1 l2 l3 q st σ => dn_arraylength eJ7_fill_53178 dJ7_fill_53178_3,
  fun l0 l1 l3 x y st σ => dn_istore_n eJ7_fill_53178 dJ7_fill_53178_4 rfl,
  fun l0 l1 l2 x st σ => dn_iload_n eJ7_fill_53178 dJ7_fill_53178_6 rfl,
  fun l0 l1 l2 l3 x y st σ => dn_icmp_ge eJ7_fill_53178 dJ7_fill_53178_7 (by decide),
  fun l1 l2 l3 x st σ => dn_aload_n eJ7_fill_53178 dJ7_fill_53178_10 rfl,
  fun l0 l1 l3 x st σ => dn_iload_n eJ7_fill_53178 dJ7_fill_53178_11 rfl,
  fun l0 l2 l3 x st σ => dn_iload_n eJ7_fill_53178 dJ7_fill_53178_12 rfl,
  fun l0 l1 l2 l3 q i x st σ => dn_iastore eJ7_fill_53178 dJ7_fill_53178_13,
  fun l0 l3 x y st σ => dn_iinc (v := nI 1) eJ7_fill_53178 dJ7_fill_53178_14 rfl kc_iconst_1 rfl,
  fun l0 l1 l2 l3 st σ => dn_goto eJ7_fill_53178 dJ7_fill_53178_17 (by decide),
  fun l0 l1 l2 l3 σ => dn_return eJ7_fill_53178 dJ7_fill_53178_20 rfl⟩
theorem CJ7_fill_d0a16 (a0 : Nat) (a1 : Int64) (σ : dS) : dcall mJ7_fill_d0a16 [.ref a0, .long a1] σ = den mJ7_fill_d0a16 0 [some (.ref a0), some (.long a1), none, none, none] [] σ := dcall_den (by decide) rfl
theorem hJ7_fill_d0a16_6 (l0 l1 l2 l4 : Option Value) (x : Int32) (st : List Value) (σ : dS) : den mJ7_fill_d0a16 6 [l0, l1, l2, some (.int x), l4] st σ = den mJ7_fill_d0a16 7 [l0, l1, l2, some (.int x), l4] (.int x :: st) σ := dn_iload_n eJ7_fill_d0a16 dJ7_fill_d0a16_6 rfl
set_option maxRecDepth 20000 in
theorem SJ7_fill_d0a16 : (∀ (l0 l1 l2 l3 l4 : Option Value) (st : List Value) (σ : dS), den mJ7_fill_d0a16 0 [l0, l1, l2, l3, l4] st σ = den mJ7_fill_d0a16 1 [l0, l1, l2, l3, l4] (.int (nI 0) :: st) σ) ∧
  (∀ (l0 l1 l3 l4 : Option Value) (x : Int32) (st : List Value) (σ : dS), den mJ7_fill_d0a16 1 [l0, l1, none, l3, l4] (.int x :: st) σ = den mJ7_fill_d0a16 2 [l0, l1, none, some (.int x), l4] st σ) ∧
  (∀ (l1 l2 l3 l4 : Option Value) (x : Nat) (st : List Value) (σ : dS), den mJ7_fill_d0a16 2 [some (.ref x), l1, l2, l3, l4] st σ = den mJ7_fill_d0a16 3 [some (.ref x), l1, l2, l3, l4] (.ref x :: st) σ) ∧
  (∀ (l0 l1 l2 l3 l4 : Option Value) (q : Nat) (st : List Value) (σ : dS), den mJ7_fill_d0a16 3 [l0, l1, l2, l3, l4] (.ref q :: st) σ = (dalen σ q).bind fun v => den mJ7_fill_d0a16 4 [l0, l1, l2, l3, l4] (.int v :: st) σ) ∧
  (∀ (l0 l1 l2 l4 : Option Value) (x : Int32) (y : Int32) (st : List Value) (σ : dS), den mJ7_fill_d0a16 4 [l0, l1, l2, some (.int y), l4] (.int x :: st) σ = den mJ7_fill_d0a16 6 [l0, l1, l2, some (.int y), some (.int x)] st σ) ∧
  (∀ (l0 l1 l2 l3 : Option Value) (x : Int32) (st : List Value) (σ : dS), den mJ7_fill_d0a16 7 [l0, l1, l2, l3, some (.int x)] st σ = den mJ7_fill_d0a16 9 [l0, l1, l2, l3, some (.int x)] (.int x :: st) σ) ∧
  (∀ (l0 l1 l2 l3 l4 : Option Value) (x y : Int32) (st : List Value) (σ : dS), den mJ7_fill_d0a16 9 [l0, l1, l2, l3, l4] (.int y :: .int x :: st) σ = if x < y then den mJ7_fill_d0a16 12 [l0, l1, l2, l3, l4] st σ else den mJ7_fill_d0a16 22 [l0, l1, l2, l3, l4] st σ) ∧
  (∀ (l1 l2 l3 l4 : Option Value) (x : Nat) (st : List Value) (σ : dS), den mJ7_fill_d0a16 12 [some (.ref x), l1, l2, l3, l4] st σ = den mJ7_fill_d0a16 13 [some (.ref x), l1, l2, l3, l4] (.ref x :: st) σ) ∧
  (∀ (l0 l1 l2 l4 : Option Value) (x : Int32) (st : List Value) (σ : dS), den mJ7_fill_d0a16 13 [l0, l1, l2, some (.int x), l4] st σ = den mJ7_fill_d0a16 14 [l0, l1, l2, some (.int x), l4] (.int x :: st) σ) ∧
  (∀ (l0 l2 l3 l4 : Option Value) (x : Int64) (st : List Value) (σ : dS), den mJ7_fill_d0a16 14 [l0, some (.long x), l2, l3, l4] st σ = den mJ7_fill_d0a16 15 [l0, some (.long x), l2, l3, l4] (.long x :: st) σ) ∧
  (∀ (l0 l1 l2 l3 l4 : Option Value) (q : Nat) (i : Int32) (x : Int64) (st : List Value) (σ : dS), den mJ7_fill_d0a16 15 [l0, l1, l2, l3, l4] (.long x :: .int i :: .ref q :: st) σ = (dlst σ q i x).bind fun τ => den mJ7_fill_d0a16 16 [l0, l1, l2, l3, l4] st τ) ∧
  (∀ (l0 l1 l4 : Option Value) (x : Int32) (st : List Value) (σ : dS), den mJ7_fill_d0a16 16 [l0, l1, none, some (.int x), l4] st σ = den mJ7_fill_d0a16 19 [l0, l1, none, some (.int (x + nI 1)), l4] st σ) ∧
  (∀ (l0 l1 l2 l3 l4 : Option Value) (st : List Value) (σ : dS), den mJ7_fill_d0a16 19 [l0, l1, l2, l3, l4] st σ = den mJ7_fill_d0a16 6 [l0, l1, l2, l3, l4] st σ) ∧
  (∀ (l0 l1 l2 l3 l4 : Option Value) (σ : dS), den mJ7_fill_d0a16 22 [l0, l1, l2, l3, l4] [] σ = some (none, σ)) :=
  ⟨fun l0 l1 l2 l3 l4 st σ => dn_iconst eJ7_fill_d0a16 dJ7_fill_d0a16_0 kc_iconst_0,
  fun l0 l1 l3 l4 x st σ => dn_istore_n eJ7_fill_d0a16 dJ7_fill_d0a16_1 rfl,
  fun l1 l2 l3 l4 x st σ => dn_aload_n eJ7_fill_d0a16 dJ7_fill_d0a16_2 rfl,
  fun l0 l1 l2 l3 l4 q st σ => dn_arraylength eJ7_fill_d0a16 dJ7_fill_d0a16_3,
  fun l0 l1 l2 l4 x y st σ => dn_istore eJ7_fill_d0a16 dJ7_fill_d0a16_4 rfl,
  fun l0 l1 l2 l3 x st σ => dn_iload eJ7_fill_d0a16 dJ7_fill_d0a16_7 rfl,
  fun l0 l1 l2 l3 l4 x y st σ => dn_icmp_ge eJ7_fill_d0a16 dJ7_fill_d0a16_9 (by decide),
  fun l1 l2 l3 l4 x st σ => dn_aload_n eJ7_fill_d0a16 dJ7_fill_d0a16_12 rfl,
  fun l0 l1 l2 l4 x st σ => dn_iload_n eJ7_fill_d0a16 dJ7_fill_d0a16_13 rfl,
  fun l0 l2 l3 l4 x st σ => dn_lload_n eJ7_fill_d0a16 dJ7_fill_d0a16_14 rfl,
  fun l0 l1 l2 l3 l4 q i x st σ => dn_lastore eJ7_fill_d0a16 dJ7_fill_d0a16_15,
  fun l0 l1 l4 x st σ => dn_iinc (v := nI 1) eJ7_fill_d0a16 dJ7_fill_d0a16_16 rfl kc_iconst_1 rfl,
  fun l0 l1 l2 l3 l4 st σ => dn_goto eJ7_fill_d0a16 dJ7_fill_d0a16_19 (by decide),
  fun l0 l1 l2 l3 l4 σ => dn_return eJ7_fill_d0a16 dJ7_fill_d0a16_22 rfl⟩
theorem CX0_guardInner (a0 : Nat) (a1 : Nat) (σ : dS) : dcall mX0_guardInner [.ref a0, .ref a1] σ = den mX0_guardInner 0 [some (.ref a0), some (.ref a1), none, none] [] σ := dcall_den (by decide) rfl
theorem hX0_guardInner_2 (l0 l1 l3 : Option Value) (x : Int32) (st : List Value) (σ : dS) : den mX0_guardInner 2 [l0, l1, some (.int x), l3] st σ = den mX0_guardInner 3 [l0, l1, some (.int x), l3] (.int x :: st) σ := dn_iload_n eX0_guardInner dX0_guardInner_2 rfl
theorem rX0_guardInner_16 (l0 l1 l2 l3 : Option Value) (a0 : Int32) (q : Nat) (σ : dS) : den mX0_guardInner 16 [l0, l1, l2, l3] [.int a0, .ref q] σ = if disO σ q 2 = true then ((dcall mX3_parentOf [.ref q, .int a0] σ).bind fun r => den mX0_guardInner 19 [l0, l1, l2, l3] (r.1.toList ++ []) r.2) else none := by
  by_cases h : disO σ q 2 = true
  · rw [if_pos h]; exact dn_callV (e := (0, 5, 482)) (as := [.int a0]) (rest := []) eX0_guardInner dX0_guardInner_16 (by decide +kernel) rfl (by decide +kernel) rfl (dcat_le rfl) (dlen_le rfl) rfl h
  · rw [if_neg h]; exact den_noV (e := (0, 5, 482)) (as := [.int a0]) (rest := []) eX0_guardInner dX0_guardInner_16 (by decide +kernel) rfl rfl rfl h
set_option maxRecDepth 20000 in
theorem SX0_guardInner : (∀ (l0 l1 l2 l3 : Option Value) (st : List Value) (σ : dS), den mX0_guardInner 0 [l0, l1, l2, l3] st σ = den mX0_guardInner 1 [l0, l1, l2, l3] (.int (nI 0) :: st) σ) ∧
  (∀ (l0 l2 l3 : Option Value) (x : Int32) (y : Nat) (st : List Value) (σ : dS), den mX0_guardInner 1 [l0, some (.ref y), l2, l3] (.int x :: st) σ = den mX0_guardInner 2 [l0, some (.ref y), some (.int x), l3] st σ) ∧
  (∀ (l0 l2 l3 : Option Value) (x : Nat) (st : List Value) (σ : dS), den mX0_guardInner 3 [l0, some (.ref x), l2, l3] st σ = den mX0_guardInner 4 [l0, some (.ref x), l2, l3] (.ref x :: st) σ) ∧
  (∀ (l0 l1 l2 l3 : Option Value) (q : Nat) (st : List Value) (σ : dS), den mX0_guardInner 4 [l0, l1, l2, l3] (.ref q :: st) σ = (dget σ q 2 8).bind fun v => den mX0_guardInner 7 [l0, l1, l2, l3] (v :: st) σ) ∧
  (∀ (l0 l1 l2 l3 : Option Value) (x y : Int32) (st : List Value) (σ : dS), den mX0_guardInner 7 [l0, l1, l2, l3] (.int y :: .int x :: st) σ = if x < y then den mX0_guardInner 10 [l0, l1, l2, l3] st σ else den mX0_guardInner 50 [l0, l1, l2, l3] st σ) ∧
  (∀ (l0 l2 l3 : Option Value) (x : Nat) (st : List Value) (σ : dS), den mX0_guardInner 10 [l0, some (.ref x), l2, l3] st σ = den mX0_guardInner 11 [l0, some (.ref x), l2, l3] (.ref x :: st) σ) ∧
  (∀ (l0 l1 l2 l3 : Option Value) (st : List Value) (σ : dS), den mX0_guardInner 11 [l0, l1, l2, l3] st σ = den mX0_guardInner 12 [l0, l1, l2, l3] (.int (nI 2) :: st) σ) ∧
  (∀ (l0 l1 l3 : Option Value) (x : Int32) (st : List Value) (σ : dS), den mX0_guardInner 12 [l0, l1, some (.int x), l3] st σ = den mX0_guardInner 13 [l0, l1, some (.int x), l3] (.int x :: st) σ) ∧
  (∀ (l0 l1 l2 l3 : Option Value) (x y : Int32) (st : List Value) (σ : dS), den mX0_guardInner 13 [l0, l1, l2, l3] (.int y :: .int x :: st) σ = den mX0_guardInner 14 [l0, l1, l2, l3] (.int (x * y) :: st) σ) ∧
  (∀ (l0 l1 l2 l3 : Option Value) (st : List Value) (σ : dS), den mX0_guardInner 14 [l0, l1, l2, l3] st σ = den mX0_guardInner 15 [l0, l1, l2, l3] (.int (nI 1) :: st) σ) ∧
  (∀ (l0 l1 l2 l3 : Option Value) (x y : Int32) (st : List Value) (σ : dS), den mX0_guardInner 15 [l0, l1, l2, l3] (.int y :: .int x :: st) σ = den mX0_guardInner 16 [l0, l1, l2, l3] (.int (x + y) :: st) σ) ∧
  (∀ (l0 l1 l2 l3 : Option Value) (a0 : Int32) (q : Nat) (σ : dS), den mX0_guardInner 16 [l0, l1, l2, l3] [.int a0, .ref q] σ = if disO σ q 2 = true then ((dcall mX3_parentOf [.ref q, .int a0] σ).bind fun r => den mX0_guardInner 19 [l0, l1, l2, l3] (r.1.toList ++ []) r.2) else none) ∧
  (∀ (l0 l1 l3 : Option Value) (x : Int32) (y : Int32) (st : List Value) (σ : dS), den mX0_guardInner 19 [l0, l1, some (.int y), l3] (.int x :: st) σ = den mX0_guardInner 20 [l0, l1, some (.int y), some (.int x)] st σ) ∧
  (∀ (l0 l1 l2 : Option Value) (x : Int32) (st : List Value) (σ : dS), den mX0_guardInner 20 [l0, l1, l2, some (.int x)] st σ = den mX0_guardInner 21 [l0, l1, l2, some (.int x)] (.int x :: st) σ) ∧
  (∀ (l0 l1 l2 l3 : Option Value) (x : Int32) (st : List Value) (σ : dS), den mX0_guardInner 21 [l0, l1, l2, l3] (.int x :: st) σ = if 0 < x then den mX0_guardInner 24 [l0, l1, l2, l3] st σ else den mX0_guardInner 44 [l0, l1, l2, l3] st σ) ∧
  (∀ (l1 l2 l3 : Option Value) (x : Nat) (st : List Value) (σ : dS), den mX0_guardInner 24 [some (.ref x), l1, l2, l3] st σ = den mX0_guardInner 25 [some (.ref x), l1, l2, l3] (.ref x :: st) σ) ∧
  (∀ (l0 l1 l2 l3 : Option Value) (q : Nat) (st : List Value) (σ : dS), den mX0_guardInner 25 [l0, l1, l2, l3] (.ref q :: st) σ = (dget σ q 0 3).bind fun v => den mX0_guardInner 28 [l0, l1, l2, l3] (v :: st) σ) ∧
  (∀ (l0 l1 l2 : Option Value) (x : Int32) (st : List Value) (σ : dS), den mX0_guardInner 28 [l0, l1, l2, some (.int x)] st σ = den mX0_guardInner 29 [l0, l1, l2, some (.int x)] (.int x :: st) σ) ∧
  (∀ (l0 l1 l2 l3 : Option Value) (st : List Value) (σ : dS), den mX0_guardInner 29 [l0, l1, l2, l3] st σ = den mX0_guardInner 30 [l0, l1, l2, l3] (.int (nI 1) :: st) σ) ∧
  (∀ (l0 l1 l2 l3 : Option Value) (x y : Int32) (st : List Value) (σ : dS), den mX0_guardInner 30 [l0, l1, l2, l3] (.int y :: .int x :: st) σ = den mX0_guardInner 31 [l0, l1, l2, l3] (.int (x - y) :: st) σ) ∧
  (∀ (l0 l1 l2 l3 : Option Value) (st : List Value) (σ : dS), den mX0_guardInner 31 [l0, l1, l2, l3] st σ = den mX0_guardInner 32 [l0, l1, l2, l3] (.int (nI 2) :: st) σ) ∧
  (∀ (l0 l1 l2 l3 : Option Value) (x y : Int32) (st : List Value) (σ : dS), den mX0_guardInner 32 [l0, l1, l2, l3] (.int y :: .int x :: st) σ = if y = 0 then none else den mX0_guardInner 33 [l0, l1, l2, l3] (.int (x / y) :: st) σ) ∧
  (∀ (l0 l1 l2 l3 : Option Value) (q : Nat) (i : Int32) (st : List Value) (σ : dS), den mX0_guardInner 33 [l0, l1, l2, l3] (.int i :: .ref q :: st) σ = (dbld σ q i).bind fun v => den mX0_guardInner 34 [l0, l1, l2, l3] (.int v :: st) σ) ∧
  (∀ (l0 l1 l2 l3 : Option Value) (x : Int32) (st : List Value) (σ : dS), den mX0_guardInner 34 [l0, l1, l2, l3] (.int x :: st) σ = if x = 0 then den mX0_guardInner 44 [l0, l1, l2, l3] st σ else den mX0_guardInner 37 [l0, l1, l2, l3] st σ) ∧
  (∀ (l1 l2 l3 : Option Value) (x : Nat) (st : List Value) (σ : dS), den mX0_guardInner 37 [some (.ref x), l1, l2, l3] st σ = den mX0_guardInner 38 [some (.ref x), l1, l2, l3] (.ref x :: st) σ) ∧
  (∀ (l0 l1 l2 l3 : Option Value) (q : Nat) (st : List Value) (σ : dS), den mX0_guardInner 38 [l0, l1, l2, l3] (.ref q :: st) σ = (dget σ q 0 3).bind fun v => den mX0_guardInner 41 [l0, l1, l2, l3] (v :: st) σ) ∧
  (∀ (l0 l1 l3 : Option Value) (x : Int32) (st : List Value) (σ : dS), den mX0_guardInner 41 [l0, l1, some (.int x), l3] st σ = den mX0_guardInner 42 [l0, l1, some (.int x), l3] (.int x :: st) σ) ∧
  (∀ (l0 l1 l2 l3 : Option Value) (st : List Value) (σ : dS), den mX0_guardInner 42 [l0, l1, l2, l3] st σ = den mX0_guardInner 43 [l0, l1, l2, l3] (.int (nI 1) :: st) σ) ∧
  (∀ (l0 l1 l2 l3 : Option Value) (q : Nat) (i x : Int32) (st : List Value) (σ : dS), den mX0_guardInner 43 [l0, l1, l2, l3] (.int x :: .int i :: .ref q :: st) σ = (dbst σ q i x).bind fun τ => den mX0_guardInner 44 [l0, l1, l2, l3] st τ) ∧
  (∀ (l0 l3 : Option Value) (x : Int32) (y : Nat) (st : List Value) (σ : dS), den mX0_guardInner 44 [l0, some (.ref y), some (.int x), l3] st σ = den mX0_guardInner 47 [l0, some (.ref y), some (.int (x + nI 1)), l3] st σ) ∧
  (∀ (l0 l1 l2 l3 : Option Value) (st : List Value) (σ : dS), den mX0_guardInner 47 [l0, l1, l2, l3] st σ = den mX0_guardInner 2 [l0, l1, l2, l3] st σ) ∧
  (∀ (l0 l1 l2 l3 : Option Value) (σ : dS), den mX0_guardInner 50 [l0, l1, l2, l3] [] σ = some (none, σ)) :=
  ⟨fun l0 l1 l2 l3 st σ => dn_iconst eX0_guardInner dX0_guardInner_0 kc_iconst_0,
  fun l0 l2 l3 x y st σ => dn_istore_n eX0_guardInner dX0_guardInner_1 rfl,
  fun l0 l2 l3 x st σ => dn_aload_n eX0_guardInner dX0_guardInner_3 rfl,
  fun l0 l1 l2 l3 q st σ => dn_getfield (f := (2, 8, 116)) eX0_guardInner dX0_guardInner_4 (by decide +kernel),
  fun l0 l1 l2 l3 x y st σ => dn_icmp_ge eX0_guardInner dX0_guardInner_7 (by decide),
  fun l0 l2 l3 x st σ => dn_aload_n eX0_guardInner dX0_guardInner_10 rfl,
  fun l0 l1 l2 l3 st σ => dn_iconst eX0_guardInner dX0_guardInner_11 kc_iconst_2,
  fun l0 l1 l3 x st σ => dn_iload_n eX0_guardInner dX0_guardInner_12 rfl,
  fun l0 l1 l2 l3 x y st σ => dn_imul eX0_guardInner dX0_guardInner_13,
  fun l0 l1 l2 l3 st σ => dn_iconst eX0_guardInner dX0_guardInner_14 kc_iconst_1,
  fun l0 l1 l2 l3 x y st σ => dn_iadd eX0_guardInner dX0_guardInner_15,
  fun l0 l1 l2 l3 a0 q σ => rX0_guardInner_16 l0 l1 l2 l3 a0 q σ,
  fun l0 l1 l3 x y st σ => dn_istore_n eX0_guardInner dX0_guardInner_19 rfl,
  fun l0 l1 l2 x st σ => dn_iload_n eX0_guardInner dX0_guardInner_20 rfl,
  fun l0 l1 l2 l3 x st σ => dn_if_le eX0_guardInner dX0_guardInner_21 (by decide),
  fun l1 l2 l3 x st σ => dn_aload_n eX0_guardInner dX0_guardInner_24 rfl,
  fun l0 l1 l2 l3 q st σ => dn_getfield (f := (0, 3, 197)) eX0_guardInner dX0_guardInner_25 (by decide +kernel),
  fun l0 l1 l2 x st σ => dn_iload_n eX0_guardInner dX0_guardInner_28 rfl,
  fun l0 l1 l2 l3 st σ => dn_iconst eX0_guardInner dX0_guardInner_29 kc_iconst_1,
  fun l0 l1 l2 l3 x y st σ => dn_isub eX0_guardInner dX0_guardInner_30,
  fun l0 l1 l2 l3 st σ => dn_iconst eX0_guardInner dX0_guardInner_31 kc_iconst_2,
  fun l0 l1 l2 l3 x y st σ => dn_idiv eX0_guardInner dX0_guardInner_32,
  fun l0 l1 l2 l3 q i st σ => dn_baload eX0_guardInner dX0_guardInner_33,
  fun l0 l1 l2 l3 x st σ => dn_if_eq eX0_guardInner dX0_guardInner_34 (by decide),
  fun l1 l2 l3 x st σ => dn_aload_n eX0_guardInner dX0_guardInner_37 rfl,
  fun l0 l1 l2 l3 q st σ => dn_getfield (f := (0, 3, 197)) eX0_guardInner dX0_guardInner_38 (by decide +kernel),
  fun l0 l1 l3 x st σ => dn_iload_n eX0_guardInner dX0_guardInner_41 rfl,
  fun l0 l1 l2 l3 st σ => dn_iconst eX0_guardInner dX0_guardInner_42 kc_iconst_1,
  fun l0 l1 l2 l3 q i x st σ => dn_bastore eX0_guardInner dX0_guardInner_43,
  fun l0 l3 x y st σ => dn_iinc (v := nI 1) eX0_guardInner dX0_guardInner_44 rfl kc_iconst_1 rfl,
  fun l0 l1 l2 l3 st σ => dn_goto eX0_guardInner dX0_guardInner_47 (by decide),
  fun l0 l1 l2 l3 σ => dn_return eX0_guardInner dX0_guardInner_50 rfl⟩
theorem CX0_measureIf (a0 : Nat) (a1 : Nat) (a2 : Int32) (a3 : Int32) (σ : dS) : dcall mX0_measureIf [.ref a0, .ref a1, .int a2, .int a3] σ = den mX0_measureIf 0 [some (.ref a0), some (.ref a1), some (.int a2), some (.int a3), none, none, none, none, none, none, none] [] σ := dcall_den (by decide) rfl
set_option maxRecDepth 20000 in
theorem SX0_measureIf_0 : (∀ (l0 l1 l2 l3 l4 l5 l6 l7 l8 l9 l10 : Option Value) (st : List Value) (σ : dS), den mX0_measureIf 0 [l0, l1, l2, l3, l4, l5, l6, l7, l8, l9, l10] st σ = den mX0_measureIf 1 [l0, l1, l2, l3, l4, l5, l6, l7, l8, l9, l10] (.int (nI 2) :: st) σ) ∧
  (∀ (l0 l1 l2 l4 l5 l6 l7 l8 l9 l10 : Option Value) (x : Int32) (st : List Value) (σ : dS), den mX0_measureIf 1 [l0, l1, l2, some (.int x), l4, l5, l6, l7, l8, l9, l10] st σ = den mX0_measureIf 2 [l0, l1, l2, some (.int x), l4, l5, l6, l7, l8, l9, l10] (.int x :: st) σ) ∧
  (∀ (l0 l1 l2 l3 l4 l5 l6 l7 l8 l9 l10 : Option Value) (x y : Int32) (st : List Value) (σ : dS), den mX0_measureIf 2 [l0, l1, l2, l3, l4, l5, l6, l7, l8, l9, l10] (.int y :: .int x :: st) σ = den mX0_measureIf 3 [l0, l1, l2, l3, l4, l5, l6, l7, l8, l9, l10] (.int (x * y) :: st) σ) ∧
  (∀ (l0 l1 l2 l3 l4 l5 l6 l7 l8 l9 l10 : Option Value) (st : List Value) (σ : dS), den mX0_measureIf 3 [l0, l1, l2, l3, l4, l5, l6, l7, l8, l9, l10] st σ = den mX0_measureIf 4 [l0, l1, l2, l3, l4, l5, l6, l7, l8, l9, l10] (.int (nI 1) :: st) σ) ∧
  (∀ (l0 l1 l2 l3 l4 l5 l6 l7 l8 l9 l10 : Option Value) (x y : Int32) (st : List Value) (σ : dS), den mX0_measureIf 4 [l0, l1, l2, l3, l4, l5, l6, l7, l8, l9, l10] (.int y :: .int x :: st) σ = den mX0_measureIf 5 [l0, l1, l2, l3, l4, l5, l6, l7, l8, l9, l10] (.int (x + y) :: st) σ) ∧
  (∀ (l0 l1 l2 l4 l5 l6 l7 l8 l9 l10 : Option Value) (x : Int32) (y : Int32) (st : List Value) (σ : dS), den mX0_measureIf 5 [l0, l1, l2, some (.int y), l4, l5, l6, l7, l8, l9, l10] (.int x :: st) σ = den mX0_measureIf 7 [l0, l1, l2, some (.int y), some (.int x), l5, l6, l7, l8, l9, l10] st σ) ∧
  (∀ (l0 l2 l3 l4 l5 l6 l7 l8 l9 l10 : Option Value) (x : Nat) (st : List Value) (σ : dS), den mX0_measureIf 7 [l0, some (.ref x), l2, l3, l4, l5, l6, l7, l8, l9, l10] st σ = den mX0_measureIf 8 [l0, some (.ref x), l2, l3, l4, l5, l6, l7, l8, l9, l10] (.ref x :: st) σ) ∧
  (∀ (l0 l1 l2 l3 l4 l5 l6 l7 l8 l9 l10 : Option Value) (q : Nat) (st : List Value) (σ : dS), den mX0_measureIf 8 [l0, l1, l2, l3, l4, l5, l6, l7, l8, l9, l10] (.ref q :: st) σ = (dget σ q 2 2).bind fun v => den mX0_measureIf 11 [l0, l1, l2, l3, l4, l5, l6, l7, l8, l9, l10] (v :: st) σ) ∧
  (∀ (l0 l1 l3 l4 l5 l6 l7 l8 l9 l10 : Option Value) (x : Int32) (st : List Value) (σ : dS), den mX0_measureIf 11 [l0, l1, some (.int x), l3, l4, l5, l6, l7, l8, l9, l10] st σ = den mX0_measureIf 12 [l0, l1, some (.int x), l3, l4, l5, l6, l7, l8, l9, l10] (.int x :: st) σ) ∧
  (∀ (l0 l1 l2 l3 l4 l5 l6 l7 l8 l9 l10 : Option Value) (q : Nat) (i : Int32) (st : List Value) (σ : dS), den mX0_measureIf 12 [l0, l1, l2, l3, l4, l5, l6, l7, l8, l9, l10] (.int i :: .ref q :: st) σ = if q ≤ dN then (dald σ q 0 i).bind (fun v => den mX0_measureIf 13 [l0, l1, l2, l3, l4, l5, l6, l7, l8, l9, l10] (.int v :: st) σ) else none) ∧
  (∀ (l0 l1 l2 l3 l5 l6 l7 l8 l9 l10 : Option Value) (x : Int32) (y : Int32) (st : List Value) (σ : dS), den mX0_measureIf 13 [l0, l1, l2, l3, some (.int y), l5, l6, l7, l8, l9, l10] (.int x :: st) σ = den mX0_measureIf 15 [l0, l1, l2, l3, some (.int y), some (.int x), l6, l7, l8, l9, l10] st σ) ∧
  (∀ (l1 l2 l3 l4 l5 l6 l7 l8 l9 l10 : Option Value) (x : Nat) (st : List Value) (σ : dS), den mX0_measureIf 15 [some (.ref x), l1, l2, l3, l4, l5, l6, l7, l8, l9, l10] st σ = den mX0_measureIf 16 [some (.ref x), l1, l2, l3, l4, l5, l6, l7, l8, l9, l10] (.ref x :: st) σ) ∧
  (∀ (l0 l1 l2 l3 l4 l5 l6 l7 l8 l9 l10 : Option Value) (q : Nat) (st : List Value) (σ : dS), den mX0_measureIf 16 [l0, l1, l2, l3, l4, l5, l6, l7, l8, l9, l10] (.ref q :: st) σ = (dget σ q 0 0).bind fun v => den mX0_measureIf 19 [l0, l1, l2, l3, l4, l5, l6, l7, l8, l9, l10] (v :: st) σ) ∧
  (∀ (l0 l1 l3 l4 l5 l6 l7 l8 l9 l10 : Option Value) (x : Int32) (st : List Value) (σ : dS), den mX0_measureIf 19 [l0, l1, some (.int x), l3, l4, l5, l6, l7, l8, l9, l10] st σ = den mX0_measureIf 20 [l0, l1, some (.int x), l3, l4, l5, l6, l7, l8, l9, l10] (.int x :: st) σ) ∧
  (∀ (l0 l1 l2 l3 l4 l5 l6 l7 l8 l9 l10 : Option Value) (st : List Value) (σ : dS), den mX0_measureIf 20 [l0, l1, l2, l3, l4, l5, l6, l7, l8, l9, l10] st σ = den mX0_measureIf 21 [l0, l1, l2, l3, l4, l5, l6, l7, l8, l9, l10] (.int (nI 1) :: st) σ) ∧
  (∀ (l1 l2 l3 l4 l5 l6 l7 l8 l9 l10 : Option Value) (x : Nat) (st : List Value) (σ : dS), den mX0_measureIf 21 [some (.ref x), l1, l2, l3, l4, l5, l6, l7, l8, l9, l10] st σ = den mX0_measureIf 22 [some (.ref x), l1, l2, l3, l4, l5, l6, l7, l8, l9, l10] (.ref x :: st) σ) ∧
  (∀ (l0 l1 l2 l3 l4 l5 l6 l7 l8 l9 l10 : Option Value) (q : Nat) (st : List Value) (σ : dS), den mX0_measureIf 22 [l0, l1, l2, l3, l4, l5, l6, l7, l8, l9, l10] (.ref q :: st) σ = (dget σ q 0 1).bind fun v => den mX0_measureIf 25 [l0, l1, l2, l3, l4, l5, l6, l7, l8, l9, l10] (v :: st) σ) ∧
  (∀ (l0 l1 l2 l3 l5 l6 l7 l8 l9 l10 : Option Value) (x : Int32) (st : List Value) (σ : dS), den mX0_measureIf 25 [l0, l1, l2, l3, some (.int x), l5, l6, l7, l8, l9, l10] st σ = den mX0_measureIf 27 [l0, l1, l2, l3, some (.int x), l5, l6, l7, l8, l9, l10] (.int x :: st) σ) ∧
  (∀ (l0 l1 l2 l3 l4 l5 l6 l7 l8 l9 l10 : Option Value) (q : Nat) (i : Int32) (st : List Value) (σ : dS), den mX0_measureIf 27 [l0, l1, l2, l3, l4, l5, l6, l7, l8, l9, l10] (.int i :: .ref q :: st) σ = if q ≤ dN then (dald σ q 0 i).bind (fun v => den mX0_measureIf 28 [l0, l1, l2, l3, l4, l5, l6, l7, l8, l9, l10] (.int v :: st) σ) else none) ∧
  (∀ (l0 l1 l2 l3 l4 l5 l6 l7 l8 l9 l10 : Option Value) (x y : Int32) (st : List Value) (σ : dS), den mX0_measureIf 28 [l0, l1, l2, l3, l4, l5, l6, l7, l8, l9, l10] (.int y :: .int x :: st) σ = den mX0_measureIf 29 [l0, l1, l2, l3, l4, l5, l6, l7, l8, l9, l10] (.int (x + y) :: st) σ) ∧
  (∀ (l1 l2 l3 l4 l5 l6 l7 l8 l9 l10 : Option Value) (x : Nat) (st : List Value) (σ : dS), den mX0_measureIf 29 [some (.ref x), l1, l2, l3, l4, l5, l6, l7, l8, l9, l10] st σ = den mX0_measureIf 30 [some (.ref x), l1, l2, l3, l4, l5, l6, l7, l8, l9, l10] (.ref x :: st) σ) ∧
  (∀ (l0 l1 l2 l3 l4 l5 l6 l7 l8 l9 l10 : Option Value) (q : Nat) (st : List Value) (σ : dS), den mX0_measureIf 30 [l0, l1, l2, l3, l4, l5, l6, l7, l8, l9, l10] (.ref q :: st) σ = (dget σ q 0 1).bind fun v => den mX0_measureIf 33 [l0, l1, l2, l3, l4, l5, l6, l7, l8, l9, l10] (v :: st) σ) ∧
  (∀ (l0 l1 l2 l3 l5 l6 l7 l8 l9 l10 : Option Value) (x : Int32) (st : List Value) (σ : dS), den mX0_measureIf 33 [l0, l1, l2, l3, some (.int x), l5, l6, l7, l8, l9, l10] st σ = den mX0_measureIf 35 [l0, l1, l2, l3, some (.int x), l5, l6, l7, l8, l9, l10] (.int x :: st) σ) ∧
  (∀ (l0 l1 l2 l3 l4 l5 l6 l7 l8 l9 l10 : Option Value) (st : List Value) (σ : dS), den mX0_measureIf 35 [l0, l1, l2, l3, l4, l5, l6, l7, l8, l9, l10] st σ = den mX0_measureIf 36 [l0, l1, l2, l3, l4, l5, l6, l7, l8, l9, l10] (.int (nI 1) :: st) σ) ∧
  (∀ (l0 l1 l2 l3 l4 l5 l6 l7 l8 l9 l10 : Option Value) (x y : Int32) (st : List Value) (σ : dS), den mX0_measureIf 36 [l0, l1, l2, l3, l4, l5, l6, l7, l8, l9, l10] (.int y :: .int x :: st) σ = den mX0_measureIf 37 [l0, l1, l2, l3, l4, l5, l6, l7, l8, l9, l10] (.int (x + y) :: st) σ) ∧
  (∀ (l0 l1 l2 l3 l4 l5 l6 l7 l8 l9 l10 : Option Value) (q : Nat) (i : Int32) (st : List Value) (σ : dS), den mX0_measureIf 37 [l0, l1, l2, l3, l4, l5, l6, l7, l8, l9, l10] (.int i :: .ref q :: st) σ = if q ≤ dN then (dald σ q 0 i).bind (fun v => den mX0_measureIf 38 [l0, l1, l2, l3, l4, l5, l6, l7, l8, l9, l10] (.int v :: st) σ) else none) ∧
  (∀ (l0 l1 l2 l3 l4 l5 l6 l7 l8 l9 l10 : Option Value) (x y : Int32) (st : List Value) (σ : dS), den mX0_measureIf 38 [l0, l1, l2, l3, l4, l5, l6, l7, l8, l9, l10] (.int y :: .int x :: st) σ = den mX0_measureIf 39 [l0, l1, l2, l3, l4, l5, l6, l7, l8, l9, l10] (.int (x + y) :: st) σ) ∧
  (∀ (l0 l1 l2 l3 l4 l5 l6 l7 l8 l9 l10 : Option Value) (q : Nat) (i x : Int32) (st : List Value) (σ : dS), den mX0_measureIf 39 [l0, l1, l2, l3, l4, l5, l6, l7, l8, l9, l10] (.int x :: .int i :: .ref q :: st) σ = (dast σ q 0 i x).bind fun τ => den mX0_measureIf 40 [l0, l1, l2, l3, l4, l5, l6, l7, l8, l9, l10] st τ) ∧
  (∀ (l1 l2 l3 l4 l5 l6 l7 l8 l9 l10 : Option Value) (x : Nat) (st : List Value) (σ : dS), den mX0_measureIf 40 [some (.ref x), l1, l2, l3, l4, l5, l6, l7, l8, l9, l10] st σ = den mX0_measureIf 41 [some (.ref x), l1, l2, l3, l4, l5, l6, l7, l8, l9, l10] (.ref x :: st) σ) ∧
  (∀ (l0 l1 l2 l3 l4 l5 l6 l7 l8 l9 l10 : Option Value) (q : Nat) (st : List Value) (σ : dS), den mX0_measureIf 41 [l0, l1, l2, l3, l4, l5, l6, l7, l8, l9, l10] (.ref q :: st) σ = (dget σ q 0 0).bind fun v => den mX0_measureIf 44 [l0, l1, l2, l3, l4, l5, l6, l7, l8, l9, l10] (v :: st) σ) ∧
  (∀ (l0 l1 l3 l4 l5 l6 l7 l8 l9 l10 : Option Value) (x : Int32) (st : List Value) (σ : dS), den mX0_measureIf 44 [l0, l1, some (.int x), l3, l4, l5, l6, l7, l8, l9, l10] st σ = den mX0_measureIf 45 [l0, l1, some (.int x), l3, l4, l5, l6, l7, l8, l9, l10] (.int x :: st) σ) ∧
  (∀ (l0 l1 l2 l3 l4 l5 l6 l7 l8 l9 l10 : Option Value) (q : Nat) (i : Int32) (st : List Value) (σ : dS), den mX0_measureIf 45 [l0, l1, l2, l3, l4, l5, l6, l7, l8, l9, l10] (.int i :: .ref q :: st) σ = if q ≤ dN then (dald σ q 0 i).bind (fun v => den mX0_measureIf 46 [l0, l1, l2, l3, l4, l5, l6, l7, l8, l9, l10] (.int v :: st) σ) else none) ∧
  (∀ (l0 l1 l2 l3 l4 l5 l6 l7 l8 l9 l10 : Option Value) (x : Int32) (st : List Value) (σ : dS), den mX0_measureIf 46 [l0, l1, l2, l3, l4, l5, l6, l7, l8, l9, l10] (.int x :: st) σ = den mX0_measureIf 47 [l0, l1, l2, l3, l4, l5, l6, l7, l8, l9, l10] (.long x.toInt64 :: st) σ) ∧
  (∀ (l0 l1 l2 l3 l4 l5 l6 l7 l8 l9 l10 : Option Value) (st : List Value) (σ : dS), den mX0_measureIf 47 [l0, l1, l2, l3, l4, l5, l6, l7, l8, l9, l10] st σ = den mX0_measureIf 50 [l0, l1, l2, l3, l4, l5, l6, l7, l8, l9, l10] (.long (lN 1000000) :: st) σ) ∧
  (∀ (l0 l1 l2 l3 l4 l5 l6 l7 l8 l9 l10 : Option Value) (x y : Int64) (st : List Value) (σ : dS), den mX0_measureIf 50 [l0, l1, l2, l3, l4, l5, l6, l7, l8, l9, l10] (.long y :: .long x :: st) σ = den mX0_measureIf 51 [l0, l1, l2, l3, l4, l5, l6, l7, l8, l9, l10] (.long (x * y) :: st) σ) ∧
  (∀ (l0 l1 l2 l3 l4 l6 l7 l8 l9 l10 : Option Value) (x : Int64) (y : Int32) (st : List Value) (σ : dS), den mX0_measureIf 51 [l0, l1, l2, l3, l4, some (.int y), l6, l7, l8, l9, l10] (.long x :: st) σ = den mX0_measureIf 53 [l0, l1, l2, l3, l4, some (.int y), some (.long x), none, l8, l9, l10] st σ) ∧
  (∀ (l0 l1 l2 l3 l4 l5 l6 l7 l8 l9 l10 : Option Value) (st : List Value) (σ : dS), den mX0_measureIf 53 [l0, l1, l2, l3, l4, l5, l6, l7, l8, l9, l10] st σ = den mX0_measureIf 56 [l0, l1, l2, l3, l4, l5, l6, l7, l8, l9, l10] (.long (lN 4000000) :: st) σ) ∧
  (∀ (l1 l2 l3 l4 l5 l6 l7 l8 l9 l10 : Option Value) (x : Nat) (st : List Value) (σ : dS), den mX0_measureIf 56 [some (.ref x), l1, l2, l3, l4, l5, l6, l7, l8, l9, l10] st σ = den mX0_measureIf 57 [some (.ref x), l1, l2, l3, l4, l5, l6, l7, l8, l9, l10] (.ref x :: st) σ) ∧
  (∀ (l0 l1 l2 l3 l4 l5 l6 l7 l8 l9 l10 : Option Value) (q : Nat) (st : List Value) (σ : dS), den mX0_measureIf 57 [l0, l1, l2, l3, l4, l5, l6, l7, l8, l9, l10] (.ref q :: st) σ = (dget σ q 0 2).bind fun v => den mX0_measureIf 60 [l0, l1, l2, l3, l4, l5, l6, l7, l8, l9, l10] (v :: st) σ) ∧
  (∀ (l0 l1 l2 l3 l5 l6 l7 l8 l9 l10 : Option Value) (x : Int32) (st : List Value) (σ : dS), den mX0_measureIf 60 [l0, l1, l2, l3, some (.int x), l5, l6, l7, l8, l9, l10] st σ = den mX0_measureIf 62 [l0, l1, l2, l3, some (.int x), l5, l6, l7, l8, l9, l10] (.int x :: st) σ) :=
  ⟨fun l0 l1 l2 l3 l4 l5 l6 l7 l8 l9 l10 st σ => dn_iconst eX0_measureIf dX0_measureIf_0 kc_iconst_2,
  fun l0 l1 l2 l4 l5 l6 l7 l8 l9 l10 x st σ => dn_iload_n eX0_measureIf dX0_measureIf_1 rfl,
  fun l0 l1 l2 l3 l4 l5 l6 l7 l8 l9 l10 x y st σ => dn_imul eX0_measureIf dX0_measureIf_2,
  fun l0 l1 l2 l3 l4 l5 l6 l7 l8 l9 l10 st σ => dn_iconst eX0_measureIf dX0_measureIf_3 kc_iconst_1,
  fun l0 l1 l2 l3 l4 l5 l6 l7 l8 l9 l10 x y st σ => dn_iadd eX0_measureIf dX0_measureIf_4,
  fun l0 l1 l2 l4 l5 l6 l7 l8 l9 l10 x y st σ => dn_istore eX0_measureIf dX0_measureIf_5 rfl,
  fun l0 l2 l3 l4 l5 l6 l7 l8 l9 l10 x st σ => dn_aload_n eX0_measureIf dX0_measureIf_7 rfl,
  fun l0 l1 l2 l3 l4 l5 l6 l7 l8 l9 l10 q st σ => dn_getfield (f := (2, 2, 94)) eX0_measureIf dX0_measureIf_8 (by decide +kernel),
  fun l0 l1 l3 l4 l5 l6 l7 l8 l9 l10 x st σ => dn_iload_n eX0_measureIf dX0_measureIf_11 rfl,
  fun l0 l1 l2 l3 l4 l5 l6 l7 l8 l9 l10 q i st σ => dn_iaload eX0_measureIf dX0_measureIf_12,
  fun l0 l1 l2 l3 l5 l6 l7 l8 l9 l10 x y st σ => dn_istore eX0_measureIf dX0_measureIf_13 rfl,
  fun l1 l2 l3 l4 l5 l6 l7 l8 l9 l10 x st σ => dn_aload_n eX0_measureIf dX0_measureIf_15 rfl,
  fun l0 l1 l2 l3 l4 l5 l6 l7 l8 l9 l10 q st σ => dn_getfield (f := (0, 0, 190)) eX0_measureIf dX0_measureIf_16 (by decide +kernel),
  fun l0 l1 l3 l4 l5 l6 l7 l8 l9 l10 x st σ => dn_iload_n eX0_measureIf dX0_measureIf_19 rfl,
  fun l0 l1 l2 l3 l4 l5 l6 l7 l8 l9 l10 st σ => dn_iconst eX0_measureIf dX0_measureIf_20 kc_iconst_1,
  fun l1 l2 l3 l4 l5 l6 l7 l8 l9 l10 x st σ => dn_aload_n eX0_measureIf dX0_measureIf_21 rfl,
  fun l0 l1 l2 l3 l4 l5 l6 l7 l8 l9 l10 q st σ => dn_getfield (f := (0, 1, 193)) eX0_measureIf dX0_measureIf_22 (by decide +kernel),
  fun l0 l1 l2 l3 l5 l6 l7 l8 l9 l10 x st σ => dn_iload eX0_measureIf dX0_measureIf_25 rfl,
  fun l0 l1 l2 l3 l4 l5 l6 l7 l8 l9 l10 q i st σ => dn_iaload eX0_measureIf dX0_measureIf_27,
  fun l0 l1 l2 l3 l4 l5 l6 l7 l8 l9 l10 x y st σ => dn_iadd eX0_measureIf dX0_measureIf_28,
  fun l1 l2 l3 l4 l5 l6 l7 l8 l9 l10 x st σ => dn_aload_n eX0_measureIf dX0_measureIf_29 rfl,
  fun l0 l1 l2 l3 l4 l5 l6 l7 l8 l9 l10 q st σ => dn_getfield (f := (0, 1, 193)) eX0_measureIf dX0_measureIf_30 (by decide +kernel),
  fun l0 l1 l2 l3 l5 l6 l7 l8 l9 l10 x st σ => dn_iload eX0_measureIf dX0_measureIf_33 rfl,
  fun l0 l1 l2 l3 l4 l5 l6 l7 l8 l9 l10 st σ => dn_iconst eX0_measureIf dX0_measureIf_35 kc_iconst_1,
  fun l0 l1 l2 l3 l4 l5 l6 l7 l8 l9 l10 x y st σ => dn_iadd eX0_measureIf dX0_measureIf_36,
  fun l0 l1 l2 l3 l4 l5 l6 l7 l8 l9 l10 q i st σ => dn_iaload eX0_measureIf dX0_measureIf_37,
  fun l0 l1 l2 l3 l4 l5 l6 l7 l8 l9 l10 x y st σ => dn_iadd eX0_measureIf dX0_measureIf_38,
  fun l0 l1 l2 l3 l4 l5 l6 l7 l8 l9 l10 q i x st σ => dn_iastore eX0_measureIf dX0_measureIf_39,
  fun l1 l2 l3 l4 l5 l6 l7 l8 l9 l10 x st σ => dn_aload_n eX0_measureIf dX0_measureIf_40 rfl,
  fun l0 l1 l2 l3 l4 l5 l6 l7 l8 l9 l10 q st σ => dn_getfield (f := (0, 0, 190)) eX0_measureIf dX0_measureIf_41 (by decide +kernel),
  fun l0 l1 l3 l4 l5 l6 l7 l8 l9 l10 x st σ => dn_iload_n eX0_measureIf dX0_measureIf_44 rfl,
  fun l0 l1 l2 l3 l4 l5 l6 l7 l8 l9 l10 q i st σ => dn_iaload eX0_measureIf dX0_measureIf_45,
  fun l0 l1 l2 l3 l4 l5 l6 l7 l8 l9 l10 x st σ => dn_i2l eX0_measureIf dX0_measureIf_46,
  fun l0 l1 l2 l3 l4 l5 l6 l7 l8 l9 l10 st σ => dn_ldc2_w (w := 1000000) (p := 475) eX0_measureIf dX0_measureIf_47 (by decide +kernel) (by decide +kernel),
  fun l0 l1 l2 l3 l4 l5 l6 l7 l8 l9 l10 x y st σ => dn_lmul eX0_measureIf dX0_measureIf_50,
  fun l0 l1 l2 l3 l4 l6 l7 l8 l9 l10 x y st σ => dn_lstore eX0_measureIf dX0_measureIf_51 rfl,
  fun l0 l1 l2 l3 l4 l5 l6 l7 l8 l9 l10 st σ => dn_ldc2_w (w := 4000000) (p := 476) eX0_measureIf dX0_measureIf_53 (by decide +kernel) (by decide +kernel),
  fun l1 l2 l3 l4 l5 l6 l7 l8 l9 l10 x st σ => dn_aload_n eX0_measureIf dX0_measureIf_56 rfl,
  fun l0 l1 l2 l3 l4 l5 l6 l7 l8 l9 l10 q st σ => dn_getfield (f := (0, 2, 195)) eX0_measureIf dX0_measureIf_57 (by decide +kernel),
  fun l0 l1 l2 l3 l5 l6 l7 l8 l9 l10 x st σ => dn_iload eX0_measureIf dX0_measureIf_60 rfl⟩
set_option maxRecDepth 20000 in
theorem SX0_measureIf_1 : (∀ (l0 l1 l2 l3 l4 l5 l6 l7 l8 l9 l10 : Option Value) (q : Nat) (i : Int32) (st : List Value) (σ : dS), den mX0_measureIf 62 [l0, l1, l2, l3, l4, l5, l6, l7, l8, l9, l10] (.int i :: .ref q :: st) σ = (dlld σ q i).bind fun v => den mX0_measureIf 63 [l0, l1, l2, l3, l4, l5, l6, l7, l8, l9, l10] (.long v :: st) σ) ∧
  (∀ (l0 l1 l2 l3 l4 l6 l7 l8 l9 l10 : Option Value) (x : Int32) (st : List Value) (σ : dS), den mX0_measureIf 63 [l0, l1, l2, l3, l4, some (.int x), l6, l7, l8, l9, l10] st σ = den mX0_measureIf 65 [l0, l1, l2, l3, l4, some (.int x), l6, l7, l8, l9, l10] (.int x :: st) σ) ∧
  (∀ (l0 l1 l2 l3 l4 l5 l6 l7 l8 l9 l10 : Option Value) (x : Int32) (st : List Value) (σ : dS), den mX0_measureIf 65 [l0, l1, l2, l3, l4, l5, l6, l7, l8, l9, l10] (.int x :: st) σ = den mX0_measureIf 66 [l0, l1, l2, l3, l4, l5, l6, l7, l8, l9, l10] (.long x.toInt64 :: st) σ) ∧
  (∀ (l0 l1 l2 l3 l4 l5 l6 l7 l8 l9 l10 : Option Value) (x y : Int64) (st : List Value) (σ : dS), den mX0_measureIf 66 [l0, l1, l2, l3, l4, l5, l6, l7, l8, l9, l10] (.long y :: .long x :: st) σ = den mX0_measureIf 67 [l0, l1, l2, l3, l4, l5, l6, l7, l8, l9, l10] (.long (x * y) :: st) σ) ∧
  (∀ (l1 l2 l3 l4 l5 l6 l7 l8 l9 l10 : Option Value) (x : Nat) (st : List Value) (σ : dS), den mX0_measureIf 67 [some (.ref x), l1, l2, l3, l4, l5, l6, l7, l8, l9, l10] st σ = den mX0_measureIf 68 [some (.ref x), l1, l2, l3, l4, l5, l6, l7, l8, l9, l10] (.ref x :: st) σ) ∧
  (∀ (l0 l1 l2 l3 l4 l5 l6 l7 l8 l9 l10 : Option Value) (q : Nat) (st : List Value) (σ : dS), den mX0_measureIf 68 [l0, l1, l2, l3, l4, l5, l6, l7, l8, l9, l10] (.ref q :: st) σ = (dget σ q 0 2).bind fun v => den mX0_measureIf 71 [l0, l1, l2, l3, l4, l5, l6, l7, l8, l9, l10] (v :: st) σ) ∧
  (∀ (l0 l1 l2 l3 l5 l6 l7 l8 l9 l10 : Option Value) (x : Int32) (st : List Value) (σ : dS), den mX0_measureIf 71 [l0, l1, l2, l3, some (.int x), l5, l6, l7, l8, l9, l10] st σ = den mX0_measureIf 73 [l0, l1, l2, l3, some (.int x), l5, l6, l7, l8, l9, l10] (.int x :: st) σ) ∧
  (∀ (l0 l1 l2 l3 l4 l5 l6 l7 l8 l9 l10 : Option Value) (st : List Value) (σ : dS), den mX0_measureIf 73 [l0, l1, l2, l3, l4, l5, l6, l7, l8, l9, l10] st σ = den mX0_measureIf 74 [l0, l1, l2, l3, l4, l5, l6, l7, l8, l9, l10] (.int (nI 1) :: st) σ) ∧
  (∀ (l0 l1 l2 l3 l4 l5 l6 l7 l8 l9 l10 : Option Value) (x y : Int32) (st : List Value) (σ : dS), den mX0_measureIf 74 [l0, l1, l2, l3, l4, l5, l6, l7, l8, l9, l10] (.int y :: .int x :: st) σ = den mX0_measureIf 75 [l0, l1, l2, l3, l4, l5, l6, l7, l8, l9, l10] (.int (x + y) :: st) σ) ∧
  (∀ (l0 l1 l2 l3 l4 l5 l6 l7 l8 l9 l10 : Option Value) (q : Nat) (i : Int32) (st : List Value) (σ : dS), den mX0_measureIf 75 [l0, l1, l2, l3, l4, l5, l6, l7, l8, l9, l10] (.int i :: .ref q :: st) σ = (dlld σ q i).bind fun v => den mX0_measureIf 76 [l0, l1, l2, l3, l4, l5, l6, l7, l8, l9, l10] (.long v :: st) σ) ∧
  (∀ (l0 l1 l2 l3 l4 l5 l6 l7 l8 l9 l10 : Option Value) (st : List Value) (σ : dS), den mX0_measureIf 76 [l0, l1, l2, l3, l4, l5, l6, l7, l8, l9, l10] st σ = den mX0_measureIf 78 [l0, l1, l2, l3, l4, l5, l6, l7, l8, l9, l10] (.int (nI 10) :: st) σ) ∧
  (∀ (l0 l1 l2 l3 l4 l6 l7 l8 l9 l10 : Option Value) (x : Int32) (st : List Value) (σ : dS), den mX0_measureIf 78 [l0, l1, l2, l3, l4, some (.int x), l6, l7, l8, l9, l10] st σ = den mX0_measureIf 80 [l0, l1, l2, l3, l4, some (.int x), l6, l7, l8, l9, l10] (.int x :: st) σ) ∧
  (∀ (l0 l1 l2 l3 l4 l5 l6 l7 l8 l9 l10 : Option Value) (x y : Int32) (st : List Value) (σ : dS), den mX0_measureIf 80 [l0, l1, l2, l3, l4, l5, l6, l7, l8, l9, l10] (.int y :: .int x :: st) σ = den mX0_measureIf 81 [l0, l1, l2, l3, l4, l5, l6, l7, l8, l9, l10] (.int (x - y) :: st) σ) ∧
  (∀ (l0 l1 l2 l3 l4 l5 l6 l7 l8 l9 l10 : Option Value) (x : Int32) (st : List Value) (σ : dS), den mX0_measureIf 81 [l0, l1, l2, l3, l4, l5, l6, l7, l8, l9, l10] (.int x :: st) σ = den mX0_measureIf 82 [l0, l1, l2, l3, l4, l5, l6, l7, l8, l9, l10] (.long x.toInt64 :: st) σ) ∧
  (∀ (l0 l1 l2 l3 l4 l5 l6 l7 l8 l9 l10 : Option Value) (x y : Int64) (st : List Value) (σ : dS), den mX0_measureIf 82 [l0, l1, l2, l3, l4, l5, l6, l7, l8, l9, l10] (.long y :: .long x :: st) σ = den mX0_measureIf 83 [l0, l1, l2, l3, l4, l5, l6, l7, l8, l9, l10] (.long (x * y) :: st) σ) ∧
  (∀ (l0 l1 l2 l3 l4 l5 l6 l7 l8 l9 l10 : Option Value) (x y : Int64) (st : List Value) (σ : dS), den mX0_measureIf 83 [l0, l1, l2, l3, l4, l5, l6, l7, l8, l9, l10] (.long y :: .long x :: st) σ = den mX0_measureIf 84 [l0, l1, l2, l3, l4, l5, l6, l7, l8, l9, l10] (.long (x + y) :: st) σ) ∧
  (∀ (l0 l1 l2 l3 l4 l5 l6 l7 l8 l9 l10 : Option Value) (st : List Value) (σ : dS), den mX0_measureIf 84 [l0, l1, l2, l3, l4, l5, l6, l7, l8, l9, l10] st σ = den mX0_measureIf 87 [l0, l1, l2, l3, l4, l5, l6, l7, l8, l9, l10] (.long (lN 10) :: st) σ) ∧
  (∀ (l0 l1 l2 l3 l4 l5 l6 l7 l8 l9 l10 : Option Value) (x y : Int64) (st : List Value) (σ : dS), den mX0_measureIf 87 [l0, l1, l2, l3, l4, l5, l6, l7, l8, l9, l10] (.long y :: .long x :: st) σ = if y = 0 then none else den mX0_measureIf 88 [l0, l1, l2, l3, l4, l5, l6, l7, l8, l9, l10] (.long (x / y) :: st) σ) ∧
  (∀ (l0 l1 l2 l3 l4 l5 l6 l7 l8 l9 l10 : Option Value) (x y : Int64) (st : List Value) (σ : dS), den mX0_measureIf 88 [l0, l1, l2, l3, l4, l5, l6, l7, l8, l9, l10] (.long y :: .long x :: st) σ = den mX0_measureIf 89 [l0, l1, l2, l3, l4, l5, l6, l7, l8, l9, l10] (.long (x + y) :: st) σ) ∧
  (∀ (l0 l1 l2 l3 l4 l5 l6 l8 l9 l10 : Option Value) (x : Int64) (st : List Value) (σ : dS), den mX0_measureIf 89 [l0, l1, l2, l3, l4, l5, l6, none, l8, l9, l10] (.long x :: st) σ = den mX0_measureIf 91 [l0, l1, l2, l3, l4, l5, l6, none, some (.long x), none, l10] st σ) ∧
  (∀ (l0 l2 l3 l4 l5 l6 l7 l8 l9 l10 : Option Value) (x : Nat) (st : List Value) (σ : dS), den mX0_measureIf 91 [l0, some (.ref x), l2, l3, l4, l5, l6, l7, l8, l9, l10] st σ = den mX0_measureIf 92 [l0, some (.ref x), l2, l3, l4, l5, l6, l7, l8, l9, l10] (.ref x :: st) σ) ∧
  (∀ (l0 l1 l2 l3 l4 l5 l6 l7 l8 l9 l10 : Option Value) (q : Nat) (st : List Value) (σ : dS), den mX0_measureIf 92 [l0, l1, l2, l3, l4, l5, l6, l7, l8, l9, l10] (.ref q :: st) σ = (dget σ q 2 6).bind fun v => den mX0_measureIf 95 [l0, l1, l2, l3, l4, l5, l6, l7, l8, l9, l10] (v :: st) σ) ∧
  (∀ (l0 l1 l2 l4 l5 l6 l7 l8 l9 l10 : Option Value) (x : Int32) (st : List Value) (σ : dS), den mX0_measureIf 95 [l0, l1, l2, some (.int x), l4, l5, l6, l7, l8, l9, l10] st σ = den mX0_measureIf 96 [l0, l1, l2, some (.int x), l4, l5, l6, l7, l8, l9, l10] (.int x :: st) σ) ∧
  (∀ (l0 l1 l2 l3 l4 l5 l6 l7 l8 l9 l10 : Option Value) (q : Nat) (i : Int32) (st : List Value) (σ : dS), den mX0_measureIf 96 [l0, l1, l2, l3, l4, l5, l6, l7, l8, l9, l10] (.int i :: .ref q :: st) σ = if q ≤ dN then (dald σ q 0 i).bind (fun v => den mX0_measureIf 97 [l0, l1, l2, l3, l4, l5, l6, l7, l8, l9, l10] (.int v :: st) σ) else none) ∧
  (∀ (l0 l1 l2 l3 l4 l5 l6 l7 l8 l10 : Option Value) (x : Int32) (st : List Value) (σ : dS), den mX0_measureIf 97 [l0, l1, l2, l3, l4, l5, l6, l7, l8, none, l10] (.int x :: st) σ = den mX0_measureIf 99 [l0, l1, l2, l3, l4, l5, l6, l7, l8, none, some (.int x)] st σ) ∧
  (∀ (l1 l2 l3 l4 l5 l6 l7 l8 l9 l10 : Option Value) (x : Nat) (st : List Value) (σ : dS), den mX0_measureIf 99 [some (.ref x), l1, l2, l3, l4, l5, l6, l7, l8, l9, l10] st σ = den mX0_measureIf 100 [some (.ref x), l1, l2, l3, l4, l5, l6, l7, l8, l9, l10] (.ref x :: st) σ) ∧
  (∀ (l0 l1 l2 l3 l4 l5 l6 l7 l8 l9 l10 : Option Value) (q : Nat) (st : List Value) (σ : dS), den mX0_measureIf 100 [l0, l1, l2, l3, l4, l5, l6, l7, l8, l9, l10] (.ref q :: st) σ = (dget σ q 0 3).bind fun v => den mX0_measureIf 103 [l0, l1, l2, l3, l4, l5, l6, l7, l8, l9, l10] (v :: st) σ) ∧
  (∀ (l0 l1 l2 l4 l5 l6 l7 l8 l9 l10 : Option Value) (x : Int32) (st : List Value) (σ : dS), den mX0_measureIf 103 [l0, l1, l2, some (.int x), l4, l5, l6, l7, l8, l9, l10] st σ = den mX0_measureIf 104 [l0, l1, l2, some (.int x), l4, l5, l6, l7, l8, l9, l10] (.int x :: st) σ) ∧
  (∀ (l0 l1 l2 l3 l4 l5 l6 l7 l8 l9 : Option Value) (x : Int32) (st : List Value) (σ : dS), den mX0_measureIf 104 [l0, l1, l2, l3, l4, l5, l6, l7, l8, l9, some (.int x)] st σ = den mX0_measureIf 106 [l0, l1, l2, l3, l4, l5, l6, l7, l8, l9, some (.int x)] (.int x :: st) σ) ∧
  (∀ (l0 l1 l2 l3 l4 l5 l6 l7 l8 l9 l10 : Option Value) (st : List Value) (σ : dS), den mX0_measureIf 106 [l0, l1, l2, l3, l4, l5, l6, l7, l8, l9, l10] st σ = den mX0_measureIf 107 [l0, l1, l2, l3, l4, l5, l6, l7, l8, l9, l10] (.int (nI 1) :: st) σ) ∧
  (∀ (l0 l1 l2 l3 l4 l5 l6 l7 l8 l9 l10 : Option Value) (x y : Int32) (st : List Value) (σ : dS), den mX0_measureIf 107 [l0, l1, l2, l3, l4, l5, l6, l7, l8, l9, l10] (.int y :: .int x :: st) σ = if x = y then den mX0_measureIf 124 [l0, l1, l2, l3, l4, l5, l6, l7, l8, l9, l10] st σ else den mX0_measureIf 110 [l0, l1, l2, l3, l4, l5, l6, l7, l8, l9, l10] st σ) ∧
  (∀ (l0 l1 l2 l3 l4 l5 l6 l7 l8 l9 : Option Value) (x : Int32) (st : List Value) (σ : dS), den mX0_measureIf 110 [l0, l1, l2, l3, l4, l5, l6, l7, l8, l9, some (.int x)] st σ = den mX0_measureIf 112 [l0, l1, l2, l3, l4, l5, l6, l7, l8, l9, some (.int x)] (.int x :: st) σ) ∧
  (∀ (l0 l1 l2 l3 l4 l5 l6 l7 l8 l9 l10 : Option Value) (st : List Value) (σ : dS), den mX0_measureIf 112 [l0, l1, l2, l3, l4, l5, l6, l7, l8, l9, l10] st σ = den mX0_measureIf 113 [l0, l1, l2, l3, l4, l5, l6, l7, l8, l9, l10] (.int (nI 2) :: st) σ) ∧
  (∀ (l0 l1 l2 l3 l4 l5 l6 l7 l8 l9 l10 : Option Value) (x y : Int32) (st : List Value) (σ : dS), den mX0_measureIf 113 [l0, l1, l2, l3, l4, l5, l6, l7, l8, l9, l10] (.int y :: .int x :: st) σ = if x = y then den mX0_measureIf 116 [l0, l1, l2, l3, l4, l5, l6, l7, l8, l9, l10] st σ else den mX0_measureIf 128 [l0, l1, l2, l3, l4, l5, l6, l7, l8, l9, l10] st σ) ∧
  (∀ (l0 l1 l2 l3 l4 l5 l7 l8 l9 l10 : Option Value) (x : Int64) (st : List Value) (σ : dS), den mX0_measureIf 116 [l0, l1, l2, l3, l4, l5, some (.long x), l7, l8, l9, l10] st σ = den mX0_measureIf 118 [l0, l1, l2, l3, l4, l5, some (.long x), l7, l8, l9, l10] (.long x :: st) σ) ∧
  (∀ (l0 l1 l2 l3 l4 l5 l6 l7 l9 l10 : Option Value) (x : Int64) (st : List Value) (σ : dS), den mX0_measureIf 118 [l0, l1, l2, l3, l4, l5, l6, l7, some (.long x), l9, l10] st σ = den mX0_measureIf 120 [l0, l1, l2, l3, l4, l5, l6, l7, some (.long x), l9, l10] (.long x :: st) σ) ∧
  (∀ (l0 l1 l2 l3 l4 l5 l6 l7 l8 l9 l10 : Option Value) (x y : Int64) (st : List Value) (σ : dS), den mX0_measureIf 120 [l0, l1, l2, l3, l4, l5, l6, l7, l8, l9, l10] (.long y :: .long x :: st) σ = den mX0_measureIf 121 [l0, l1, l2, l3, l4, l5, l6, l7, l8, l9, l10] (.int (lg_cmp x y) :: st) σ) ∧
  (∀ (l0 l1 l2 l3 l4 l5 l6 l7 l8 l9 l10 : Option Value) (x : Int32) (st : List Value) (σ : dS), den mX0_measureIf 121 [l0, l1, l2, l3, l4, l5, l6, l7, l8, l9, l10] (.int x :: st) σ = if 0 < x then den mX0_measureIf 128 [l0, l1, l2, l3, l4, l5, l6, l7, l8, l9, l10] st σ else den mX0_measureIf 124 [l0, l1, l2, l3, l4, l5, l6, l7, l8, l9, l10] st σ) ∧
  (∀ (l0 l1 l2 l3 l4 l5 l6 l7 l8 l9 l10 : Option Value) (st : List Value) (σ : dS), den mX0_measureIf 124 [l0, l1, l2, l3, l4, l5, l6, l7, l8, l9, l10] st σ = den mX0_measureIf 125 [l0, l1, l2, l3, l4, l5, l6, l7, l8, l9, l10] (.int (nI 1) :: st) σ) ∧
  (∀ (l0 l1 l2 l3 l4 l5 l6 l7 l8 l9 l10 : Option Value) (st : List Value) (σ : dS), den mX0_measureIf 125 [l0, l1, l2, l3, l4, l5, l6, l7, l8, l9, l10] st σ = den mX0_measureIf 129 [l0, l1, l2, l3, l4, l5, l6, l7, l8, l9, l10] st σ) :=
  ⟨fun l0 l1 l2 l3 l4 l5 l6 l7 l8 l9 l10 q i st σ => dn_laload eX0_measureIf dX0_measureIf_62,
  fun l0 l1 l2 l3 l4 l6 l7 l8 l9 l10 x st σ => dn_iload eX0_measureIf dX0_measureIf_63 rfl,
  fun l0 l1 l2 l3 l4 l5 l6 l7 l8 l9 l10 x st σ => dn_i2l eX0_measureIf dX0_measureIf_65,
  fun l0 l1 l2 l3 l4 l5 l6 l7 l8 l9 l10 x y st σ => dn_lmul eX0_measureIf dX0_measureIf_66,
  fun l1 l2 l3 l4 l5 l6 l7 l8 l9 l10 x st σ => dn_aload_n eX0_measureIf dX0_measureIf_67 rfl,
  fun l0 l1 l2 l3 l4 l5 l6 l7 l8 l9 l10 q st σ => dn_getfield (f := (0, 2, 195)) eX0_measureIf dX0_measureIf_68 (by decide +kernel),
  fun l0 l1 l2 l3 l5 l6 l7 l8 l9 l10 x st σ => dn_iload eX0_measureIf dX0_measureIf_71 rfl,
  fun l0 l1 l2 l3 l4 l5 l6 l7 l8 l9 l10 st σ => dn_iconst eX0_measureIf dX0_measureIf_73 kc_iconst_1,
  fun l0 l1 l2 l3 l4 l5 l6 l7 l8 l9 l10 x y st σ => dn_iadd eX0_measureIf dX0_measureIf_74,
  fun l0 l1 l2 l3 l4 l5 l6 l7 l8 l9 l10 q i st σ => dn_laload eX0_measureIf dX0_measureIf_75,
  fun l0 l1 l2 l3 l4 l5 l6 l7 l8 l9 l10 st σ => dn_bipush eX0_measureIf dX0_measureIf_76 kc_bipush_10,
  fun l0 l1 l2 l3 l4 l6 l7 l8 l9 l10 x st σ => dn_iload eX0_measureIf dX0_measureIf_78 rfl,
  fun l0 l1 l2 l3 l4 l5 l6 l7 l8 l9 l10 x y st σ => dn_isub eX0_measureIf dX0_measureIf_80,
  fun l0 l1 l2 l3 l4 l5 l6 l7 l8 l9 l10 x st σ => dn_i2l eX0_measureIf dX0_measureIf_81,
  fun l0 l1 l2 l3 l4 l5 l6 l7 l8 l9 l10 x y st σ => dn_lmul eX0_measureIf dX0_measureIf_82,
  fun l0 l1 l2 l3 l4 l5 l6 l7 l8 l9 l10 x y st σ => dn_ladd eX0_measureIf dX0_measureIf_83,
  fun l0 l1 l2 l3 l4 l5 l6 l7 l8 l9 l10 st σ => dn_ldc2_w (w := 10) (p := 477) eX0_measureIf dX0_measureIf_84 (by decide +kernel) (by decide +kernel),
  fun l0 l1 l2 l3 l4 l5 l6 l7 l8 l9 l10 x y st σ => dn_ldiv eX0_measureIf dX0_measureIf_87,
  fun l0 l1 l2 l3 l4 l5 l6 l7 l8 l9 l10 x y st σ => dn_ladd eX0_measureIf dX0_measureIf_88,
  fun l0 l1 l2 l3 l4 l5 l6 l8 l9 l10 x st σ => dn_lstore eX0_measureIf dX0_measureIf_89 rfl,
  fun l0 l2 l3 l4 l5 l6 l7 l8 l9 l10 x st σ => dn_aload_n eX0_measureIf dX0_measureIf_91 rfl,
  fun l0 l1 l2 l3 l4 l5 l6 l7 l8 l9 l10 q st σ => dn_getfield (f := (2, 6, 107)) eX0_measureIf dX0_measureIf_92 (by decide +kernel),
  fun l0 l1 l2 l4 l5 l6 l7 l8 l9 l10 x st σ => dn_iload_n eX0_measureIf dX0_measureIf_95 rfl,
  fun l0 l1 l2 l3 l4 l5 l6 l7 l8 l9 l10 q i st σ => dn_iaload eX0_measureIf dX0_measureIf_96,
  fun l0 l1 l2 l3 l4 l5 l6 l7 l8 l10 x st σ => dn_istore eX0_measureIf dX0_measureIf_97 rfl,
  fun l1 l2 l3 l4 l5 l6 l7 l8 l9 l10 x st σ => dn_aload_n eX0_measureIf dX0_measureIf_99 rfl,
  fun l0 l1 l2 l3 l4 l5 l6 l7 l8 l9 l10 q st σ => dn_getfield (f := (0, 3, 197)) eX0_measureIf dX0_measureIf_100 (by decide +kernel),
  fun l0 l1 l2 l4 l5 l6 l7 l8 l9 l10 x st σ => dn_iload_n eX0_measureIf dX0_measureIf_103 rfl,
  fun l0 l1 l2 l3 l4 l5 l6 l7 l8 l9 x st σ => dn_iload eX0_measureIf dX0_measureIf_104 rfl,
  fun l0 l1 l2 l3 l4 l5 l6 l7 l8 l9 l10 st σ => dn_iconst eX0_measureIf dX0_measureIf_106 kc_iconst_1,
  fun l0 l1 l2 l3 l4 l5 l6 l7 l8 l9 l10 x y st σ => dn_icmp_eq eX0_measureIf dX0_measureIf_107 (by decide),
  fun l0 l1 l2 l3 l4 l5 l6 l7 l8 l9 x st σ => dn_iload eX0_measureIf dX0_measureIf_110 rfl,
  fun l0 l1 l2 l3 l4 l5 l6 l7 l8 l9 l10 st σ => dn_iconst eX0_measureIf dX0_measureIf_112 kc_iconst_2,
  fun l0 l1 l2 l3 l4 l5 l6 l7 l8 l9 l10 x y st σ => dn_icmp_ne eX0_measureIf dX0_measureIf_113 (by decide),
  fun l0 l1 l2 l3 l4 l5 l7 l8 l9 l10 x st σ => dn_lload eX0_measureIf dX0_measureIf_116 rfl,
  fun l0 l1 l2 l3 l4 l5 l6 l7 l9 l10 x st σ => dn_lload eX0_measureIf dX0_measureIf_118 rfl,
  fun l0 l1 l2 l3 l4 l5 l6 l7 l8 l9 l10 x y st σ => dn_lcmp eX0_measureIf dX0_measureIf_120,
  fun l0 l1 l2 l3 l4 l5 l6 l7 l8 l9 l10 x st σ => dn_if_gt eX0_measureIf dX0_measureIf_121 (by decide),
  fun l0 l1 l2 l3 l4 l5 l6 l7 l8 l9 l10 st σ => dn_iconst eX0_measureIf dX0_measureIf_124 kc_iconst_1,
  fun l0 l1 l2 l3 l4 l5 l6 l7 l8 l9 l10 st σ => dn_goto eX0_measureIf dX0_measureIf_125 (by decide)⟩
set_option maxRecDepth 20000 in
theorem SX0_measureIf_2 : (∀ (l0 l1 l2 l3 l4 l5 l6 l7 l8 l9 l10 : Option Value) (st : List Value) (σ : dS), den mX0_measureIf 128 [l0, l1, l2, l3, l4, l5, l6, l7, l8, l9, l10] st σ = den mX0_measureIf 129 [l0, l1, l2, l3, l4, l5, l6, l7, l8, l9, l10] (.int (nI 0) :: st) σ) ∧
  (∀ (l0 l1 l2 l3 l4 l5 l6 l7 l8 l9 l10 : Option Value) (q : Nat) (i x : Int32) (st : List Value) (σ : dS), den mX0_measureIf 129 [l0, l1, l2, l3, l4, l5, l6, l7, l8, l9, l10] (.int x :: .int i :: .ref q :: st) σ = (dbst σ q i x).bind fun τ => den mX0_measureIf 130 [l0, l1, l2, l3, l4, l5, l6, l7, l8, l9, l10] st τ) ∧
  (∀ (l1 l2 l3 l4 l5 l6 l7 l8 l9 l10 : Option Value) (x : Nat) (st : List Value) (σ : dS), den mX0_measureIf 130 [some (.ref x), l1, l2, l3, l4, l5, l6, l7, l8, l9, l10] st σ = den mX0_measureIf 131 [some (.ref x), l1, l2, l3, l4, l5, l6, l7, l8, l9, l10] (.ref x :: st) σ) ∧
  (∀ (l0 l1 l2 l3 l4 l5 l6 l7 l8 l9 l10 : Option Value) (q : Nat) (st : List Value) (σ : dS), den mX0_measureIf 131 [l0, l1, l2, l3, l4, l5, l6, l7, l8, l9, l10] (.ref q :: st) σ = (dget σ q 0 3).bind fun v => den mX0_measureIf 134 [l0, l1, l2, l3, l4, l5, l6, l7, l8, l9, l10] (v :: st) σ) ∧
  (∀ (l0 l1 l2 l4 l5 l6 l7 l8 l9 l10 : Option Value) (x : Int32) (st : List Value) (σ : dS), den mX0_measureIf 134 [l0, l1, l2, some (.int x), l4, l5, l6, l7, l8, l9, l10] st σ = den mX0_measureIf 135 [l0, l1, l2, some (.int x), l4, l5, l6, l7, l8, l9, l10] (.int x :: st) σ) ∧
  (∀ (l0 l1 l2 l3 l4 l5 l6 l7 l8 l9 l10 : Option Value) (q : Nat) (i : Int32) (st : List Value) (σ : dS), den mX0_measureIf 135 [l0, l1, l2, l3, l4, l5, l6, l7, l8, l9, l10] (.int i :: .ref q :: st) σ = (dbld σ q i).bind fun v => den mX0_measureIf 136 [l0, l1, l2, l3, l4, l5, l6, l7, l8, l9, l10] (.int v :: st) σ) ∧
  (∀ (l0 l1 l2 l3 l4 l5 l6 l7 l8 l9 l10 : Option Value) (x : Int32) (st : List Value) (σ : dS), den mX0_measureIf 136 [l0, l1, l2, l3, l4, l5, l6, l7, l8, l9, l10] (.int x :: st) σ = if x = 0 then den mX0_measureIf 144 [l0, l1, l2, l3, l4, l5, l6, l7, l8, l9, l10] st σ else den mX0_measureIf 139 [l0, l1, l2, l3, l4, l5, l6, l7, l8, l9, l10] st σ) ∧
  (∀ (l0 l1 l2 l3 l4 l5 l7 l8 l9 l10 : Option Value) (x : Int64) (st : List Value) (σ : dS), den mX0_measureIf 139 [l0, l1, l2, l3, l4, l5, some (.long x), l7, l8, l9, l10] st σ = den mX0_measureIf 141 [l0, l1, l2, l3, l4, l5, some (.long x), l7, l8, l9, l10] (.long x :: st) σ) ∧
  (∀ (l0 l1 l2 l3 l4 l5 l6 l7 l8 l9 l10 : Option Value) (st : List Value) (σ : dS), den mX0_measureIf 141 [l0, l1, l2, l3, l4, l5, l6, l7, l8, l9, l10] st σ = den mX0_measureIf 146 [l0, l1, l2, l3, l4, l5, l6, l7, l8, l9, l10] st σ) ∧
  (∀ (l0 l1 l2 l3 l4 l5 l6 l7 l9 l10 : Option Value) (x : Int64) (st : List Value) (σ : dS), den mX0_measureIf 144 [l0, l1, l2, l3, l4, l5, l6, l7, some (.long x), l9, l10] st σ = den mX0_measureIf 146 [l0, l1, l2, l3, l4, l5, l6, l7, some (.long x), l9, l10] (.long x :: st) σ) ∧
  (∀ (l0 l1 l2 l3 l4 l5 l6 l7 l8 l9 l10 : Option Value) (v : Int64) (σ : dS), den mX0_measureIf 146 [l0, l1, l2, l3, l4, l5, l6, l7, l8, l9, l10] [.long v] σ = some (some (.long v), σ)) :=
  ⟨fun l0 l1 l2 l3 l4 l5 l6 l7 l8 l9 l10 st σ => dn_iconst eX0_measureIf dX0_measureIf_128 kc_iconst_0,
  fun l0 l1 l2 l3 l4 l5 l6 l7 l8 l9 l10 q i x st σ => dn_bastore eX0_measureIf dX0_measureIf_129,
  fun l1 l2 l3 l4 l5 l6 l7 l8 l9 l10 x st σ => dn_aload_n eX0_measureIf dX0_measureIf_130 rfl,
  fun l0 l1 l2 l3 l4 l5 l6 l7 l8 l9 l10 q st σ => dn_getfield (f := (0, 3, 197)) eX0_measureIf dX0_measureIf_131 (by decide +kernel),
  fun l0 l1 l2 l4 l5 l6 l7 l8 l9 l10 x st σ => dn_iload_n eX0_measureIf dX0_measureIf_134 rfl,
  fun l0 l1 l2 l3 l4 l5 l6 l7 l8 l9 l10 q i st σ => dn_baload eX0_measureIf dX0_measureIf_135,
  fun l0 l1 l2 l3 l4 l5 l6 l7 l8 l9 l10 x st σ => dn_if_eq eX0_measureIf dX0_measureIf_136 (by decide),
  fun l0 l1 l2 l3 l4 l5 l7 l8 l9 l10 x st σ => dn_lload eX0_measureIf dX0_measureIf_139 rfl,
  fun l0 l1 l2 l3 l4 l5 l6 l7 l8 l9 l10 st σ => dn_goto eX0_measureIf dX0_measureIf_141 (by decide),
  fun l0 l1 l2 l3 l4 l5 l6 l7 l9 l10 x st σ => dn_lload eX0_measureIf dX0_measureIf_144 rfl,
  fun l0 l1 l2 l3 l4 l5 l6 l7 l8 l9 l10 v σ => dn_lreturn eX0_measureIf dX0_measureIf_146 rfl⟩
theorem CX0_measure (a0 : Nat) (a1 : Nat) (σ : dS) : dcall mX0_measure [.ref a0, .ref a1] σ = den mX0_measure 0 [some (.ref a0), some (.ref a1), none, none, none] [] σ := dcall_den (by decide) rfl
theorem hX0_measure_28 (l0 l1 l2 l4 : Option Value) (x : Int32) (st : List Value) (σ : dS) : den mX0_measure 28 [l0, l1, l2, some (.int x), l4] st σ = den mX0_measure 29 [l0, l1, l2, some (.int x), l4] (.int x :: st) σ := dn_iload_n eX0_measure dX0_measure_28 rfl
theorem rX0_measure_65 (l0 l1 l2 l3 l4 : Option Value) (a0 : Nat) (a1 : Int32) (a2 : Int32) (b0 : Int64) (b1 : Int32) (b2 : Nat) (q : Nat) (σ : dS) : den mX0_measure 65 [l0, l1, l2, l3, l4] [.int a2, .int a1, .ref a0, .ref q, .long b0, .int b1, .ref b2] σ = if disO σ q 0 = true then ((dcall mX0_measureIf [.ref q, .ref a0, .int a1, .int a2] σ).bind fun r => den mX0_measure 68 [l0, l1, l2, l3, l4] (r.1.toList ++ [.long b0, .int b1, .ref b2]) r.2) else none := by
  by_cases h : disO σ q 0 = true
  · rw [if_pos h]; exact dn_callV (e := (0, 7, 471)) (as := [.ref a0, .int a1, .int a2]) (rest := [.long b0, .int b1, .ref b2]) eX0_measure dX0_measure_65 (by decide +kernel) rfl (by decide +kernel) rfl (dcat_le rfl) (dlen_le rfl) rfl h
  · rw [if_neg h]; exact den_noV (e := (0, 7, 471)) (as := [.ref a0, .int a1, .int a2]) (rest := [.long b0, .int b1, .ref b2]) eX0_measure dX0_measure_65 (by decide +kernel) rfl rfl rfl h
theorem rX0_measure_139 (l0 l1 l2 l3 l4 : Option Value) (a0 : Nat) (q : Nat) (σ : dS) : den mX0_measure 139 [l0, l1, l2, l3, l4] [.ref a0, .ref q] σ = if disO σ q 0 = true then ((dcall mX0_guardInner [.ref q, .ref a0] σ).bind fun r => den mX0_measure 142 [l0, l1, l2, l3, l4] (r.1.toList ++ []) r.2) else none := by
  by_cases h : disO σ q 0 = true
  · rw [if_pos h]; exact dn_callV (e := (0, 6, 478)) (as := [.ref a0]) (rest := []) eX0_measure dX0_measure_139 (by decide +kernel) rfl (by decide +kernel) rfl (dcat_le rfl) (dlen_le rfl) rfl h
  · rw [if_neg h]; exact den_noV (e := (0, 6, 478)) (as := [.ref a0]) (rest := []) eX0_measure dX0_measure_139 (by decide +kernel) rfl rfl rfl h
set_option maxRecDepth 20000 in
theorem SX0_measure_0 : (∀ (l1 l2 l3 l4 : Option Value) (x : Nat) (st : List Value) (σ : dS), den mX0_measure 0 [some (.ref x), l1, l2, l3, l4] st σ = den mX0_measure 1 [some (.ref x), l1, l2, l3, l4] (.ref x :: st) σ) ∧
  (∀ (l0 l1 l2 l3 l4 : Option Value) (q : Nat) (st : List Value) (σ : dS), den mX0_measure 1 [l0, l1, l2, l3, l4] (.ref q :: st) σ = (dget σ q 0 1).bind fun v => den mX0_measure 4 [l0, l1, l2, l3, l4] (v :: st) σ) ∧
  (∀ (l0 l1 l2 l3 l4 : Option Value) (st : List Value) (σ : dS), den mX0_measure 4 [l0, l1, l2, l3, l4] st σ = den mX0_measure 5 [l0, l1, l2, l3, l4] (.int (nI 0) :: st) σ) ∧
  (∀ (l0 l1 l2 l3 l4 : Option Value) (a0 : Nat) (a1 : Int32) (σ : dS), den mX0_measure 5 [l0, l1, l2, l3, l4] [.int a1, .ref a0] σ = (dcall mJ7_fill_53178 [.ref a0, .int a1] σ).bind fun r => den mX0_measure 8 [l0, l1, l2, l3, l4] (r.1.toList ++ []) r.2) ∧
  (∀ (l1 l2 l3 l4 : Option Value) (x : Nat) (st : List Value) (σ : dS), den mX0_measure 8 [some (.ref x), l1, l2, l3, l4] st σ = den mX0_measure 9 [some (.ref x), l1, l2, l3, l4] (.ref x :: st) σ) ∧
  (∀ (l0 l1 l2 l3 l4 : Option Value) (q : Nat) (st : List Value) (σ : dS), den mX0_measure 9 [l0, l1, l2, l3, l4] (.ref q :: st) σ = (dget σ q 0 2).bind fun v => den mX0_measure 12 [l0, l1, l2, l3, l4] (v :: st) σ) ∧
  (∀ (l0 l1 l2 l3 l4 : Option Value) (st : List Value) (σ : dS), den mX0_measure 12 [l0, l1, l2, l3, l4] st σ = den mX0_measure 13 [l0, l1, l2, l3, l4] (.long (lN 0) :: st) σ) ∧
  (∀ (l0 l1 l2 l3 l4 : Option Value) (a0 : Nat) (a1 : Int64) (σ : dS), den mX0_measure 13 [l0, l1, l2, l3, l4] [.long a1, .ref a0] σ = (dcall mJ7_fill_d0a16 [.ref a0, .long a1] σ).bind fun r => den mX0_measure 16 [l0, l1, l2, l3, l4] (r.1.toList ++ []) r.2) ∧
  (∀ (l0 l2 l3 l4 : Option Value) (x : Nat) (st : List Value) (σ : dS), den mX0_measure 16 [l0, some (.ref x), l2, l3, l4] st σ = den mX0_measure 17 [l0, some (.ref x), l2, l3, l4] (.ref x :: st) σ) ∧
  (∀ (l0 l1 l2 l3 l4 : Option Value) (q : Nat) (st : List Value) (σ : dS), den mX0_measure 17 [l0, l1, l2, l3, l4] (.ref q :: st) σ = (dget σ q 2 8).bind fun v => den mX0_measure 20 [l0, l1, l2, l3, l4] (v :: st) σ) ∧
  (∀ (l0 l2 l3 l4 : Option Value) (x : Int32) (y : Nat) (st : List Value) (σ : dS), den mX0_measure 20 [l0, some (.ref y), l2, l3, l4] (.int x :: st) σ = den mX0_measure 21 [l0, some (.ref y), some (.int x), l3, l4] st σ) ∧
  (∀ (l0 l2 l3 l4 : Option Value) (x : Nat) (st : List Value) (σ : dS), den mX0_measure 21 [l0, some (.ref x), l2, l3, l4] st σ = den mX0_measure 22 [l0, some (.ref x), l2, l3, l4] (.ref x :: st) σ) ∧
  (∀ (l0 l1 l2 l3 l4 : Option Value) (q : Nat) (st : List Value) (σ : dS), den mX0_measure 22 [l0, l1, l2, l3, l4] (.ref q :: st) σ = (dget σ q 2 7).bind fun v => den mX0_measure 25 [l0, l1, l2, l3, l4] (v :: st) σ) ∧
  (∀ (l0 l1 l2 l3 l4 : Option Value) (st : List Value) (σ : dS), den mX0_measure 25 [l0, l1, l2, l3, l4] st σ = den mX0_measure 26 [l0, l1, l2, l3, l4] (.int (nI 1) :: st) σ) ∧
  (∀ (l0 l1 l2 l3 l4 : Option Value) (x y : Int32) (st : List Value) (σ : dS), den mX0_measure 26 [l0, l1, l2, l3, l4] (.int y :: .int x :: st) σ = den mX0_measure 27 [l0, l1, l2, l3, l4] (.int (x - y) :: st) σ) ∧
  (∀ (l0 l1 l3 l4 : Option Value) (x : Int32) (y : Int32) (st : List Value) (σ : dS), den mX0_measure 27 [l0, l1, some (.int y), l3, l4] (.int x :: st) σ = den mX0_measure 28 [l0, l1, some (.int y), some (.int x), l4] st σ) ∧
  (∀ (l0 l1 l2 l3 l4 : Option Value) (x : Int32) (st : List Value) (σ : dS), den mX0_measure 29 [l0, l1, l2, l3, l4] (.int x :: st) σ = if x < 0 then den mX0_measure 137 [l0, l1, l2, l3, l4] st σ else den mX0_measure 32 [l0, l1, l2, l3, l4] st σ) ∧
  (∀ (l0 l2 l3 l4 : Option Value) (x : Nat) (st : List Value) (σ : dS), den mX0_measure 32 [l0, some (.ref x), l2, l3, l4] st σ = den mX0_measure 33 [l0, some (.ref x), l2, l3, l4] (.ref x :: st) σ) ∧
  (∀ (l0 l1 l2 l3 l4 : Option Value) (q : Nat) (st : List Value) (σ : dS), den mX0_measure 33 [l0, l1, l2, l3, l4] (.ref q :: st) σ = (dget σ q 2 4).bind fun v => den mX0_measure 36 [l0, l1, l2, l3, l4] (v :: st) σ) ∧
  (∀ (l0 l1 l2 l4 : Option Value) (x : Int32) (st : List Value) (σ : dS), den mX0_measure 36 [l0, l1, l2, some (.int x), l4] st σ = den mX0_measure 37 [l0, l1, l2, some (.int x), l4] (.int x :: st) σ) ∧
  (∀ (l0 l1 l2 l3 l4 : Option Value) (q : Nat) (i : Int32) (st : List Value) (σ : dS), den mX0_measure 37 [l0, l1, l2, l3, l4] (.int i :: .ref q :: st) σ = if q ≤ dN then (dald σ q 0 i).bind (fun v => den mX0_measure 38 [l0, l1, l2, l3, l4] (.int v :: st) σ) else none) ∧
  (∀ (l0 l1 l2 l4 : Option Value) (x : Int32) (y : Int32) (st : List Value) (σ : dS), den mX0_measure 38 [l0, l1, l2, some (.int y), l4] (.int x :: st) σ = den mX0_measure 40 [l0, l1, l2, some (.int y), some (.int x)] st σ) ∧
  (∀ (l0 l2 l3 l4 : Option Value) (x : Nat) (st : List Value) (σ : dS), den mX0_measure 40 [l0, some (.ref x), l2, l3, l4] st σ = den mX0_measure 41 [l0, some (.ref x), l2, l3, l4] (.ref x :: st) σ) ∧
  (∀ (l0 l1 l2 l3 l4 : Option Value) (q : Nat) (st : List Value) (σ : dS), den mX0_measure 41 [l0, l1, l2, l3, l4] (.ref q :: st) σ = (dget σ q 2 0).bind fun v => den mX0_measure 44 [l0, l1, l2, l3, l4] (v :: st) σ) ∧
  (∀ (l0 l1 l2 l4 : Option Value) (x : Int32) (st : List Value) (σ : dS), den mX0_measure 44 [l0, l1, l2, some (.int x), l4] st σ = den mX0_measure 45 [l0, l1, l2, some (.int x), l4] (.int x :: st) σ) ∧
  (∀ (l0 l1 l2 l3 l4 : Option Value) (q : Nat) (i : Int32) (st : List Value) (σ : dS), den mX0_measure 45 [l0, l1, l2, l3, l4] (.int i :: .ref q :: st) σ = if q ≤ dN then (dald σ q 0 i).bind (fun v => den mX0_measure 46 [l0, l1, l2, l3, l4] (.int v :: st) σ) else none) ∧
  (∀ (l0 l1 l2 l3 l4 : Option Value) (st : List Value) (σ : dS), den mX0_measure 46 [l0, l1, l2, l3, l4] st σ = den mX0_measure 47 [l0, l1, l2, l3, l4] (.int (nI 5) :: st) σ) ∧
  (∀ (l0 l1 l2 l3 l4 : Option Value) (x y : Int32) (st : List Value) (σ : dS), den mX0_measure 47 [l0, l1, l2, l3, l4] (.int y :: .int x :: st) σ = if x = y then den mX0_measure 50 [l0, l1, l2, l3, l4] st σ else den mX0_measure 73 [l0, l1, l2, l3, l4] st σ) ∧
  (∀ (l0 l3 l4 : Option Value) (x : Int32) (y : Nat) (st : List Value) (σ : dS), den mX0_measure 50 [l0, some (.ref y), some (.int x), l3, l4] st σ = den mX0_measure 53 [l0, some (.ref y), some (.int (x + (-1))), l3, l4] st σ) ∧
  (∀ (l1 l2 l3 l4 : Option Value) (x : Nat) (st : List Value) (σ : dS), den mX0_measure 53 [some (.ref x), l1, l2, l3, l4] st σ = den mX0_measure 54 [some (.ref x), l1, l2, l3, l4] (.ref x :: st) σ) ∧
  (∀ (l0 l1 l2 l3 l4 : Option Value) (q : Nat) (st : List Value) (σ : dS), den mX0_measure 54 [l0, l1, l2, l3, l4] (.ref q :: st) σ = (dget σ q 0 2).bind fun v => den mX0_measure 57 [l0, l1, l2, l3, l4] (v :: st) σ) ∧
  (∀ (l0 l1 l2 l3 : Option Value) (x : Int32) (st : List Value) (σ : dS), den mX0_measure 57 [l0, l1, l2, l3, some (.int x)] st σ = den mX0_measure 59 [l0, l1, l2, l3, some (.int x)] (.int x :: st) σ) ∧
  (∀ (l0 l1 l2 l3 l4 : Option Value) (x : Int32) (y : Nat) (st : List Value) (σ : dS), den mX0_measure 59 [l0, l1, l2, l3, l4] (.int x :: .ref y :: st) σ = den mX0_measure 60 [l0, l1, l2, l3, l4] (.int x :: .ref y :: .int x :: .ref y :: st) σ) ∧
  (∀ (l0 l1 l2 l3 l4 : Option Value) (q : Nat) (i : Int32) (st : List Value) (σ : dS), den mX0_measure 60 [l0, l1, l2, l3, l4] (.int i :: .ref q :: st) σ = (dlld σ q i).bind fun v => den mX0_measure 61 [l0, l1, l2, l3, l4] (.long v :: st) σ) ∧
  (∀ (l1 l2 l3 l4 : Option Value) (x : Nat) (st : List Value) (σ : dS), den mX0_measure 61 [some (.ref x), l1, l2, l3, l4] st σ = den mX0_measure 62 [some (.ref x), l1, l2, l3, l4] (.ref x :: st) σ) ∧
  (∀ (l0 l2 l3 l4 : Option Value) (x : Nat) (st : List Value) (σ : dS), den mX0_measure 62 [l0, some (.ref x), l2, l3, l4] st σ = den mX0_measure 63 [l0, some (.ref x), l2, l3, l4] (.ref x :: st) σ) ∧
  (∀ (l0 l1 l2 l4 : Option Value) (x : Int32) (st : List Value) (σ : dS), den mX0_measure 63 [l0, l1, l2, some (.int x), l4] st σ = den mX0_measure 64 [l0, l1, l2, some (.int x), l4] (.int x :: st) σ) ∧
  (∀ (l0 l1 l3 l4 : Option Value) (x : Int32) (st : List Value) (σ : dS), den mX0_measure 64 [l0, l1, some (.int x), l3, l4] st σ = den mX0_measure 65 [l0, l1, some (.int x), l3, l4] (.int x :: st) σ) ∧
  (∀ (l0 l1 l2 l3 l4 : Option Value) (a0 : Nat) (a1 : Int32) (a2 : Int32) (b0 : Int64) (b1 : Int32) (b2 : Nat) (q : Nat) (σ : dS), den mX0_measure 65 [l0, l1, l2, l3, l4] [.int a2, .int a1, .ref a0, .ref q, .long b0, .int b1, .ref b2] σ = if disO σ q 0 = true then ((dcall mX0_measureIf [.ref q, .ref a0, .int a1, .int a2] σ).bind fun r => den mX0_measure 68 [l0, l1, l2, l3, l4] (r.1.toList ++ [.long b0, .int b1, .ref b2]) r.2) else none) ∧
  (∀ (l0 l1 l2 l3 l4 : Option Value) (x y : Int64) (st : List Value) (σ : dS), den mX0_measure 68 [l0, l1, l2, l3, l4] (.long y :: .long x :: st) σ = den mX0_measure 69 [l0, l1, l2, l3, l4] (.long (x + y) :: st) σ) :=
  ⟨fun l1 l2 l3 l4 x st σ => dn_aload_n eX0_measure dX0_measure_0 rfl,
  fun l0 l1 l2 l3 l4 q st σ => dn_getfield (f := (0, 1, 193)) eX0_measure dX0_measure_1 (by decide +kernel),
  fun l0 l1 l2 l3 l4 st σ => dn_iconst eX0_measure dX0_measure_4 kc_iconst_0,
  fun l0 l1 l2 l3 l4 a0 a1 σ => dn_callS (e := (1, 2, 465)) (as := [.ref a0, .int a1]) (rest := []) eX0_measure dX0_measure_5 (by decide +kernel) (Or.inl rfl) (by decide +kernel) rfl (dcat_le rfl) (dlen_le rfl) rfl,
  fun l1 l2 l3 l4 x st σ => dn_aload_n eX0_measure dX0_measure_8 rfl,
  fun l0 l1 l2 l3 l4 q st σ => dn_getfield (f := (0, 2, 195)) eX0_measure dX0_measure_9 (by decide +kernel),
  fun l0 l1 l2 l3 l4 st σ => dn_lconst eX0_measure dX0_measure_12 kc_lconst_0,
  fun l0 l1 l2 l3 l4 a0 a1 σ => dn_callS (e := (1, 3, 468)) (as := [.ref a0, .long a1]) (rest := []) eX0_measure dX0_measure_13 (by decide +kernel) (Or.inl rfl) (by decide +kernel) rfl (dcat_le rfl) (dlen_le rfl) rfl,
  fun l0 l2 l3 l4 x st σ => dn_aload_n eX0_measure dX0_measure_16 rfl,
  fun l0 l1 l2 l3 l4 q st σ => dn_getfield (f := (2, 8, 116)) eX0_measure dX0_measure_17 (by decide +kernel),
  fun l0 l2 l3 l4 x y st σ => dn_istore_n eX0_measure dX0_measure_20 rfl,
  fun l0 l2 l3 l4 x st σ => dn_aload_n eX0_measure dX0_measure_21 rfl,
  fun l0 l1 l2 l3 l4 q st σ => dn_getfield (f := (2, 7, 110)) eX0_measure dX0_measure_22 (by decide +kernel),
  fun l0 l1 l2 l3 l4 st σ => dn_iconst eX0_measure dX0_measure_25 kc_iconst_1,
  fun l0 l1 l2 l3 l4 x y st σ => dn_isub eX0_measure dX0_measure_26,
  fun l0 l1 l3 l4 x y st σ => dn_istore_n eX0_measure dX0_measure_27 rfl,
  fun l0 l1 l2 l3 l4 x st σ => dn_if_lt eX0_measure dX0_measure_29 (by decide),
  fun l0 l2 l3 l4 x st σ => dn_aload_n eX0_measure dX0_measure_32 rfl,
  fun l0 l1 l2 l3 l4 q st σ => dn_getfield (f := (2, 4, 101)) eX0_measure dX0_measure_33 (by decide +kernel),
  fun l0 l1 l2 l4 x st σ => dn_iload_n eX0_measure dX0_measure_36 rfl,
  fun l0 l1 l2 l3 l4 q i st σ => dn_iaload eX0_measure dX0_measure_37,
  fun l0 l1 l2 l4 x y st σ => dn_istore eX0_measure dX0_measure_38 rfl,
  fun l0 l2 l3 l4 x st σ => dn_aload_n eX0_measure dX0_measure_40 rfl,
  fun l0 l1 l2 l3 l4 q st σ => dn_getfield (f := (2, 0, 85)) eX0_measure dX0_measure_41 (by decide +kernel),
  fun l0 l1 l2 l4 x st σ => dn_iload_n eX0_measure dX0_measure_44 rfl,
  fun l0 l1 l2 l3 l4 q i st σ => dn_iaload eX0_measure dX0_measure_45,
  fun l0 l1 l2 l3 l4 st σ => dn_iconst eX0_measure dX0_measure_46 kc_iconst_5,
  fun l0 l1 l2 l3 l4 x y st σ => dn_icmp_ne eX0_measure dX0_measure_47 (by decide),
  fun l0 l3 l4 x y st σ => dn_iinc (v := (-1)) eX0_measure dX0_measure_50 rfl kc_iconst_m1 rfl,
  fun l1 l2 l3 l4 x st σ => dn_aload_n eX0_measure dX0_measure_53 rfl,
  fun l0 l1 l2 l3 l4 q st σ => dn_getfield (f := (0, 2, 195)) eX0_measure dX0_measure_54 (by decide +kernel),
  fun l0 l1 l2 l3 x st σ => dn_iload eX0_measure dX0_measure_57 rfl,
  fun l0 l1 l2 l3 l4 x y st σ => dn_dup2 eX0_measure dX0_measure_59 rfl rfl,
  fun l0 l1 l2 l3 l4 q i st σ => dn_laload eX0_measure dX0_measure_60,
  fun l1 l2 l3 l4 x st σ => dn_aload_n eX0_measure dX0_measure_61 rfl,
  fun l0 l2 l3 l4 x st σ => dn_aload_n eX0_measure dX0_measure_62 rfl,
  fun l0 l1 l2 l4 x st σ => dn_iload_n eX0_measure dX0_measure_63 rfl,
  fun l0 l1 l3 l4 x st σ => dn_iload_n eX0_measure dX0_measure_64 rfl,
  fun l0 l1 l2 l3 l4 a0 a1 a2 b0 b1 b2 q σ => rX0_measure_65 l0 l1 l2 l3 l4 a0 a1 a2 b0 b1 b2 q σ,
  fun l0 l1 l2 l3 l4 x y st σ => dn_ladd eX0_measure dX0_measure_68⟩
set_option maxRecDepth 20000 in
theorem SX0_measure_1 : (∀ (l0 l1 l2 l3 l4 : Option Value) (q : Nat) (i : Int32) (x : Int64) (st : List Value) (σ : dS), den mX0_measure 69 [l0, l1, l2, l3, l4] (.long x :: .int i :: .ref q :: st) σ = (dlst σ q i x).bind fun τ => den mX0_measure 70 [l0, l1, l2, l3, l4] st τ) ∧
  (∀ (l0 l1 l2 l3 l4 : Option Value) (st : List Value) (σ : dS), den mX0_measure 70 [l0, l1, l2, l3, l4] st σ = den mX0_measure 115 [l0, l1, l2, l3, l4] st σ) ∧
  (∀ (l1 l2 l3 l4 : Option Value) (x : Nat) (st : List Value) (σ : dS), den mX0_measure 73 [some (.ref x), l1, l2, l3, l4] st σ = den mX0_measure 74 [some (.ref x), l1, l2, l3, l4] (.ref x :: st) σ) ∧
  (∀ (l0 l1 l2 l3 l4 : Option Value) (q : Nat) (st : List Value) (σ : dS), den mX0_measure 74 [l0, l1, l2, l3, l4] (.ref q :: st) σ = (dget σ q 0 0).bind fun v => den mX0_measure 77 [l0, l1, l2, l3, l4] (v :: st) σ) ∧
  (∀ (l0 l1 l2 l4 : Option Value) (x : Int32) (st : List Value) (σ : dS), den mX0_measure 77 [l0, l1, l2, some (.int x), l4] st σ = den mX0_measure 78 [l0, l1, l2, some (.int x), l4] (.int x :: st) σ) ∧
  (∀ (l0 l2 l3 l4 : Option Value) (x : Nat) (st : List Value) (σ : dS), den mX0_measure 78 [l0, some (.ref x), l2, l3, l4] st σ = den mX0_measure 79 [l0, some (.ref x), l2, l3, l4] (.ref x :: st) σ) ∧
  (∀ (l0 l1 l2 l3 l4 : Option Value) (q : Nat) (st : List Value) (σ : dS), den mX0_measure 79 [l0, l1, l2, l3, l4] (.ref q :: st) σ = (dget σ q 2 0).bind fun v => den mX0_measure 82 [l0, l1, l2, l3, l4] (v :: st) σ) ∧
  (∀ (l0 l1 l2 l4 : Option Value) (x : Int32) (st : List Value) (σ : dS), den mX0_measure 82 [l0, l1, l2, some (.int x), l4] st σ = den mX0_measure 83 [l0, l1, l2, some (.int x), l4] (.int x :: st) σ) ∧
  (∀ (l0 l1 l2 l3 l4 : Option Value) (q : Nat) (i : Int32) (st : List Value) (σ : dS), den mX0_measure 83 [l0, l1, l2, l3, l4] (.int i :: .ref q :: st) σ = if q ≤ dN then (dald σ q 0 i).bind (fun v => den mX0_measure 84 [l0, l1, l2, l3, l4] (.int v :: st) σ) else none) ∧
  (∀ (l0 l1 l2 l3 l4 : Option Value) (st : List Value) (σ : dS), den mX0_measure 84 [l0, l1, l2, l3, l4] st σ = den mX0_measure 85 [l0, l1, l2, l3, l4] (.int (nI 4) :: st) σ) ∧
  (∀ (l0 l1 l2 l3 l4 : Option Value) (x y : Int32) (st : List Value) (σ : dS), den mX0_measure 85 [l0, l1, l2, l3, l4] (.int y :: .int x :: st) σ = if x = y then den mX0_measure 88 [l0, l1, l2, l3, l4] st σ else den mX0_measure 92 [l0, l1, l2, l3, l4] st σ) ∧
  (∀ (l0 l1 l2 l3 l4 : Option Value) (st : List Value) (σ : dS), den mX0_measure 88 [l0, l1, l2, l3, l4] st σ = den mX0_measure 89 [l0, l1, l2, l3, l4] (.int (nI 4) :: st) σ) ∧
  (∀ (l0 l1 l2 l3 l4 : Option Value) (st : List Value) (σ : dS), den mX0_measure 89 [l0, l1, l2, l3, l4] st σ = den mX0_measure 93 [l0, l1, l2, l3, l4] st σ) ∧
  (∀ (l0 l1 l2 l3 l4 : Option Value) (st : List Value) (σ : dS), den mX0_measure 92 [l0, l1, l2, l3, l4] st σ = den mX0_measure 93 [l0, l1, l2, l3, l4] (.int (nI 1) :: st) σ) ∧
  (∀ (l0 l1 l2 l3 l4 : Option Value) (q : Nat) (i x : Int32) (st : List Value) (σ : dS), den mX0_measure 93 [l0, l1, l2, l3, l4] (.int x :: .int i :: .ref q :: st) σ = (dast σ q 0 i x).bind fun τ => den mX0_measure 94 [l0, l1, l2, l3, l4] st τ) ∧
  (∀ (l1 l2 l3 l4 : Option Value) (x : Nat) (st : List Value) (σ : dS), den mX0_measure 94 [some (.ref x), l1, l2, l3, l4] st σ = den mX0_measure 95 [some (.ref x), l1, l2, l3, l4] (.ref x :: st) σ) ∧
  (∀ (l0 l1 l2 l3 l4 : Option Value) (q : Nat) (st : List Value) (σ : dS), den mX0_measure 95 [l0, l1, l2, l3, l4] (.ref q :: st) σ = (dget σ q 0 2).bind fun v => den mX0_measure 98 [l0, l1, l2, l3, l4] (v :: st) σ) ∧
  (∀ (l0 l1 l2 l3 : Option Value) (x : Int32) (st : List Value) (σ : dS), den mX0_measure 98 [l0, l1, l2, l3, some (.int x)] st σ = den mX0_measure 100 [l0, l1, l2, l3, some (.int x)] (.int x :: st) σ) ∧
  (∀ (l0 l1 l2 l3 l4 : Option Value) (x : Int32) (y : Nat) (st : List Value) (σ : dS), den mX0_measure 100 [l0, l1, l2, l3, l4] (.int x :: .ref y :: st) σ = den mX0_measure 101 [l0, l1, l2, l3, l4] (.int x :: .ref y :: .int x :: .ref y :: st) σ) ∧
  (∀ (l0 l1 l2 l3 l4 : Option Value) (q : Nat) (i : Int32) (st : List Value) (σ : dS), den mX0_measure 101 [l0, l1, l2, l3, l4] (.int i :: .ref q :: st) σ = (dlld σ q i).bind fun v => den mX0_measure 102 [l0, l1, l2, l3, l4] (.long v :: st) σ) ∧
  (∀ (l1 l2 l3 l4 : Option Value) (x : Nat) (st : List Value) (σ : dS), den mX0_measure 102 [some (.ref x), l1, l2, l3, l4] st σ = den mX0_measure 103 [some (.ref x), l1, l2, l3, l4] (.ref x :: st) σ) ∧
  (∀ (l0 l1 l2 l3 l4 : Option Value) (q : Nat) (st : List Value) (σ : dS), den mX0_measure 103 [l0, l1, l2, l3, l4] (.ref q :: st) σ = (dget σ q 0 0).bind fun v => den mX0_measure 106 [l0, l1, l2, l3, l4] (v :: st) σ) ∧
  (∀ (l0 l1 l2 l4 : Option Value) (x : Int32) (st : List Value) (σ : dS), den mX0_measure 106 [l0, l1, l2, some (.int x), l4] st σ = den mX0_measure 107 [l0, l1, l2, some (.int x), l4] (.int x :: st) σ) ∧
  (∀ (l0 l1 l2 l3 l4 : Option Value) (q : Nat) (i : Int32) (st : List Value) (σ : dS), den mX0_measure 107 [l0, l1, l2, l3, l4] (.int i :: .ref q :: st) σ = if q ≤ dN then (dald σ q 0 i).bind (fun v => den mX0_measure 108 [l0, l1, l2, l3, l4] (.int v :: st) σ) else none) ∧
  (∀ (l0 l1 l2 l3 l4 : Option Value) (x : Int32) (st : List Value) (σ : dS), den mX0_measure 108 [l0, l1, l2, l3, l4] (.int x :: st) σ = den mX0_measure 109 [l0, l1, l2, l3, l4] (.long x.toInt64 :: st) σ) ∧
  (∀ (l0 l1 l2 l3 l4 : Option Value) (st : List Value) (σ : dS), den mX0_measure 109 [l0, l1, l2, l3, l4] st σ = den mX0_measure 112 [l0, l1, l2, l3, l4] (.long (lN 1000000) :: st) σ) ∧
  (∀ (l0 l1 l2 l3 l4 : Option Value) (x y : Int64) (st : List Value) (σ : dS), den mX0_measure 112 [l0, l1, l2, l3, l4] (.long y :: .long x :: st) σ = den mX0_measure 113 [l0, l1, l2, l3, l4] (.long (x * y) :: st) σ) ∧
  (∀ (l0 l1 l2 l3 l4 : Option Value) (x y : Int64) (st : List Value) (σ : dS), den mX0_measure 113 [l0, l1, l2, l3, l4] (.long y :: .long x :: st) σ = den mX0_measure 114 [l0, l1, l2, l3, l4] (.long (x + y) :: st) σ) ∧
  (∀ (l0 l1 l2 l3 l4 : Option Value) (q : Nat) (i : Int32) (x : Int64) (st : List Value) (σ : dS), den mX0_measure 114 [l0, l1, l2, l3, l4] (.long x :: .int i :: .ref q :: st) σ = (dlst σ q i x).bind fun τ => den mX0_measure 115 [l0, l1, l2, l3, l4] st τ) ∧
  (∀ (l1 l2 l3 l4 : Option Value) (x : Nat) (st : List Value) (σ : dS), den mX0_measure 115 [some (.ref x), l1, l2, l3, l4] st σ = den mX0_measure 116 [some (.ref x), l1, l2, l3, l4] (.ref x :: st) σ) ∧
  (∀ (l0 l1 l2 l3 l4 : Option Value) (q : Nat) (st : List Value) (σ : dS), den mX0_measure 116 [l0, l1, l2, l3, l4] (.ref q :: st) σ = (dget σ q 0 1).bind fun v => den mX0_measure 119 [l0, l1, l2, l3, l4] (v :: st) σ) ∧
  (∀ (l0 l1 l2 l3 : Option Value) (x : Int32) (st : List Value) (σ : dS), den mX0_measure 119 [l0, l1, l2, l3, some (.int x)] st σ = den mX0_measure 121 [l0, l1, l2, l3, some (.int x)] (.int x :: st) σ) ∧
  (∀ (l0 l1 l2 l3 l4 : Option Value) (x : Int32) (y : Nat) (st : List Value) (σ : dS), den mX0_measure 121 [l0, l1, l2, l3, l4] (.int x :: .ref y :: st) σ = den mX0_measure 122 [l0, l1, l2, l3, l4] (.int x :: .ref y :: .int x :: .ref y :: st) σ) ∧
  (∀ (l0 l1 l2 l3 l4 : Option Value) (q : Nat) (i : Int32) (st : List Value) (σ : dS), den mX0_measure 122 [l0, l1, l2, l3, l4] (.int i :: .ref q :: st) σ = if q ≤ dN then (dald σ q 0 i).bind (fun v => den mX0_measure 123 [l0, l1, l2, l3, l4] (.int v :: st) σ) else none) ∧
  (∀ (l1 l2 l3 l4 : Option Value) (x : Nat) (st : List Value) (σ : dS), den mX0_measure 123 [some (.ref x), l1, l2, l3, l4] st σ = den mX0_measure 124 [some (.ref x), l1, l2, l3, l4] (.ref x :: st) σ) ∧
  (∀ (l0 l1 l2 l3 l4 : Option Value) (q : Nat) (st : List Value) (σ : dS), den mX0_measure 124 [l0, l1, l2, l3, l4] (.ref q :: st) σ = (dget σ q 0 0).bind fun v => den mX0_measure 127 [l0, l1, l2, l3, l4] (v :: st) σ) ∧
  (∀ (l0 l1 l2 l4 : Option Value) (x : Int32) (st : List Value) (σ : dS), den mX0_measure 127 [l0, l1, l2, some (.int x), l4] st σ = den mX0_measure 128 [l0, l1, l2, some (.int x), l4] (.int x :: st) σ) ∧
  (∀ (l0 l1 l2 l3 l4 : Option Value) (q : Nat) (i : Int32) (st : List Value) (σ : dS), den mX0_measure 128 [l0, l1, l2, l3, l4] (.int i :: .ref q :: st) σ = if q ≤ dN then (dald σ q 0 i).bind (fun v => den mX0_measure 129 [l0, l1, l2, l3, l4] (.int v :: st) σ) else none) ∧
  (∀ (l0 l1 l2 l3 l4 : Option Value) (x y : Int32) (st : List Value) (σ : dS), den mX0_measure 129 [l0, l1, l2, l3, l4] (.int y :: .int x :: st) σ = den mX0_measure 130 [l0, l1, l2, l3, l4] (.int (x + y) :: st) σ) ∧
  (∀ (l0 l1 l2 l3 l4 : Option Value) (q : Nat) (i x : Int32) (st : List Value) (σ : dS), den mX0_measure 130 [l0, l1, l2, l3, l4] (.int x :: .int i :: .ref q :: st) σ = (dast σ q 0 i x).bind fun τ => den mX0_measure 131 [l0, l1, l2, l3, l4] st τ) :=
  ⟨fun l0 l1 l2 l3 l4 q i x st σ => dn_lastore eX0_measure dX0_measure_69,
  fun l0 l1 l2 l3 l4 st σ => dn_goto eX0_measure dX0_measure_70 (by decide),
  fun l1 l2 l3 l4 x st σ => dn_aload_n eX0_measure dX0_measure_73 rfl,
  fun l0 l1 l2 l3 l4 q st σ => dn_getfield (f := (0, 0, 190)) eX0_measure dX0_measure_74 (by decide +kernel),
  fun l0 l1 l2 l4 x st σ => dn_iload_n eX0_measure dX0_measure_77 rfl,
  fun l0 l2 l3 l4 x st σ => dn_aload_n eX0_measure dX0_measure_78 rfl,
  fun l0 l1 l2 l3 l4 q st σ => dn_getfield (f := (2, 0, 85)) eX0_measure dX0_measure_79 (by decide +kernel),
  fun l0 l1 l2 l4 x st σ => dn_iload_n eX0_measure dX0_measure_82 rfl,
  fun l0 l1 l2 l3 l4 q i st σ => dn_iaload eX0_measure dX0_measure_83,
  fun l0 l1 l2 l3 l4 st σ => dn_iconst eX0_measure dX0_measure_84 kc_iconst_4,
  fun l0 l1 l2 l3 l4 x y st σ => dn_icmp_ne eX0_measure dX0_measure_85 (by decide),
  fun l0 l1 l2 l3 l4 st σ => dn_iconst eX0_measure dX0_measure_88 kc_iconst_4,
  fun l0 l1 l2 l3 l4 st σ => dn_goto eX0_measure dX0_measure_89 (by decide),
  fun l0 l1 l2 l3 l4 st σ => dn_iconst eX0_measure dX0_measure_92 kc_iconst_1,
  fun l0 l1 l2 l3 l4 q i x st σ => dn_iastore eX0_measure dX0_measure_93,
  fun l1 l2 l3 l4 x st σ => dn_aload_n eX0_measure dX0_measure_94 rfl,
  fun l0 l1 l2 l3 l4 q st σ => dn_getfield (f := (0, 2, 195)) eX0_measure dX0_measure_95 (by decide +kernel),
  fun l0 l1 l2 l3 x st σ => dn_iload eX0_measure dX0_measure_98 rfl,
  fun l0 l1 l2 l3 l4 x y st σ => dn_dup2 eX0_measure dX0_measure_100 rfl rfl,
  fun l0 l1 l2 l3 l4 q i st σ => dn_laload eX0_measure dX0_measure_101,
  fun l1 l2 l3 l4 x st σ => dn_aload_n eX0_measure dX0_measure_102 rfl,
  fun l0 l1 l2 l3 l4 q st σ => dn_getfield (f := (0, 0, 190)) eX0_measure dX0_measure_103 (by decide +kernel),
  fun l0 l1 l2 l4 x st σ => dn_iload_n eX0_measure dX0_measure_106 rfl,
  fun l0 l1 l2 l3 l4 q i st σ => dn_iaload eX0_measure dX0_measure_107,
  fun l0 l1 l2 l3 l4 x st σ => dn_i2l eX0_measure dX0_measure_108,
  fun l0 l1 l2 l3 l4 st σ => dn_ldc2_w (w := 1000000) (p := 475) eX0_measure dX0_measure_109 (by decide +kernel) (by decide +kernel),
  fun l0 l1 l2 l3 l4 x y st σ => dn_lmul eX0_measure dX0_measure_112,
  fun l0 l1 l2 l3 l4 x y st σ => dn_ladd eX0_measure dX0_measure_113,
  fun l0 l1 l2 l3 l4 q i x st σ => dn_lastore eX0_measure dX0_measure_114,
  fun l1 l2 l3 l4 x st σ => dn_aload_n eX0_measure dX0_measure_115 rfl,
  fun l0 l1 l2 l3 l4 q st σ => dn_getfield (f := (0, 1, 193)) eX0_measure dX0_measure_116 (by decide +kernel),
  fun l0 l1 l2 l3 x st σ => dn_iload eX0_measure dX0_measure_119 rfl,
  fun l0 l1 l2 l3 l4 x y st σ => dn_dup2 eX0_measure dX0_measure_121 rfl rfl,
  fun l0 l1 l2 l3 l4 q i st σ => dn_iaload eX0_measure dX0_measure_122,
  fun l1 l2 l3 l4 x st σ => dn_aload_n eX0_measure dX0_measure_123 rfl,
  fun l0 l1 l2 l3 l4 q st σ => dn_getfield (f := (0, 0, 190)) eX0_measure dX0_measure_124 (by decide +kernel),
  fun l0 l1 l2 l4 x st σ => dn_iload_n eX0_measure dX0_measure_127 rfl,
  fun l0 l1 l2 l3 l4 q i st σ => dn_iaload eX0_measure dX0_measure_128,
  fun l0 l1 l2 l3 l4 x y st σ => dn_iadd eX0_measure dX0_measure_129,
  fun l0 l1 l2 l3 l4 q i x st σ => dn_iastore eX0_measure dX0_measure_130⟩
set_option maxRecDepth 20000 in
theorem SX0_measure_2 : (∀ (l0 l1 l4 : Option Value) (x : Int32) (y : Int32) (st : List Value) (σ : dS), den mX0_measure 131 [l0, l1, some (.int y), some (.int x), l4] st σ = den mX0_measure 134 [l0, l1, some (.int y), some (.int (x + (-1))), l4] st σ) ∧
  (∀ (l0 l1 l2 l3 l4 : Option Value) (st : List Value) (σ : dS), den mX0_measure 134 [l0, l1, l2, l3, l4] st σ = den mX0_measure 28 [l0, l1, l2, l3, l4] st σ) ∧
  (∀ (l1 l2 l3 l4 : Option Value) (x : Nat) (st : List Value) (σ : dS), den mX0_measure 137 [some (.ref x), l1, l2, l3, l4] st σ = den mX0_measure 138 [some (.ref x), l1, l2, l3, l4] (.ref x :: st) σ) ∧
  (∀ (l0 l2 l3 l4 : Option Value) (x : Nat) (st : List Value) (σ : dS), den mX0_measure 138 [l0, some (.ref x), l2, l3, l4] st σ = den mX0_measure 139 [l0, some (.ref x), l2, l3, l4] (.ref x :: st) σ) ∧
  (∀ (l0 l1 l2 l3 l4 : Option Value) (a0 : Nat) (q : Nat) (σ : dS), den mX0_measure 139 [l0, l1, l2, l3, l4] [.ref a0, .ref q] σ = if disO σ q 0 = true then ((dcall mX0_guardInner [.ref q, .ref a0] σ).bind fun r => den mX0_measure 142 [l0, l1, l2, l3, l4] (r.1.toList ++ []) r.2) else none) ∧
  (∀ (l0 l1 l2 l3 l4 : Option Value) (σ : dS), den mX0_measure 142 [l0, l1, l2, l3, l4] [] σ = some (none, σ)) :=
  ⟨fun l0 l1 l4 x y st σ => dn_iinc (v := (-1)) eX0_measure dX0_measure_131 rfl kc_iconst_m1 rfl,
  fun l0 l1 l2 l3 l4 st σ => dn_goto eX0_measure dX0_measure_134 (by decide),
  fun l1 l2 l3 l4 x st σ => dn_aload_n eX0_measure dX0_measure_137 rfl,
  fun l0 l2 l3 l4 x st σ => dn_aload_n eX0_measure dX0_measure_138 rfl,
  fun l0 l1 l2 l3 l4 a0 q σ => rX0_measure_139 l0 l1 l2 l3 l4 a0 q σ,
  fun l0 l1 l2 l3 l4 σ => dn_return eX0_measure dX0_measure_142 rfl⟩
theorem CX0_guardedIfs (a0 : Nat) (a1 : Nat) (σ : dS) : dcall mX0_guardedIfs [.ref a0, .ref a1] σ = den mX0_guardedIfs 0 [some (.ref a0), some (.ref a1), none, none] [] σ := dcall_den (by decide) rfl
theorem hX0_guardedIfs_4 (l0 l1 l2 : Option Value) (x : Int32) (st : List Value) (σ : dS) : den mX0_guardedIfs 4 [l0, l1, l2, some (.int x)] st σ = den mX0_guardedIfs 5 [l0, l1, l2, some (.int x)] (.int x :: st) σ := dn_iload_n eX0_guardedIfs dX0_guardedIfs_4 rfl
set_option maxRecDepth 20000 in
theorem SX0_guardedIfs : (∀ (l0 l1 l2 l3 : Option Value) (st : List Value) (σ : dS), den mX0_guardedIfs 0 [l0, l1, l2, l3] st σ = den mX0_guardedIfs 1 [l0, l1, l2, l3] (.int (nI 0) :: st) σ) ∧
  (∀ (l0 l2 l3 : Option Value) (x : Int32) (y : Nat) (st : List Value) (σ : dS), den mX0_guardedIfs 1 [l0, some (.ref y), l2, l3] (.int x :: st) σ = den mX0_guardedIfs 2 [l0, some (.ref y), some (.int x), l3] st σ) ∧
  (∀ (l0 l1 l2 l3 : Option Value) (st : List Value) (σ : dS), den mX0_guardedIfs 2 [l0, l1, l2, l3] st σ = den mX0_guardedIfs 3 [l0, l1, l2, l3] (.int (nI 0) :: st) σ) ∧
  (∀ (l0 l1 l3 : Option Value) (x : Int32) (y : Int32) (st : List Value) (σ : dS), den mX0_guardedIfs 3 [l0, l1, some (.int y), l3] (.int x :: st) σ = den mX0_guardedIfs 4 [l0, l1, some (.int y), some (.int x)] st σ) ∧
  (∀ (l0 l2 l3 : Option Value) (x : Nat) (st : List Value) (σ : dS), den mX0_guardedIfs 5 [l0, some (.ref x), l2, l3] st σ = den mX0_guardedIfs 6 [l0, some (.ref x), l2, l3] (.ref x :: st) σ) ∧
  (∀ (l0 l1 l2 l3 : Option Value) (q : Nat) (st : List Value) (σ : dS), den mX0_guardedIfs 6 [l0, l1, l2, l3] (.ref q :: st) σ = (dget σ q 2 8).bind fun v => den mX0_guardedIfs 9 [l0, l1, l2, l3] (v :: st) σ) ∧
  (∀ (l0 l1 l2 l3 : Option Value) (x y : Int32) (st : List Value) (σ : dS), den mX0_guardedIfs 9 [l0, l1, l2, l3] (.int y :: .int x :: st) σ = if x < y then den mX0_guardedIfs 12 [l0, l1, l2, l3] st σ else den mX0_guardedIfs 30 [l0, l1, l2, l3] st σ) ∧
  (∀ (l0 l1 l3 : Option Value) (x : Int32) (st : List Value) (σ : dS), den mX0_guardedIfs 12 [l0, l1, some (.int x), l3] st σ = den mX0_guardedIfs 13 [l0, l1, some (.int x), l3] (.int x :: st) σ) ∧
  (∀ (l1 l2 l3 : Option Value) (x : Nat) (st : List Value) (σ : dS), den mX0_guardedIfs 13 [some (.ref x), l1, l2, l3] st σ = den mX0_guardedIfs 14 [some (.ref x), l1, l2, l3] (.ref x :: st) σ) ∧
  (∀ (l0 l1 l2 l3 : Option Value) (q : Nat) (st : List Value) (σ : dS), den mX0_guardedIfs 14 [l0, l1, l2, l3] (.ref q :: st) σ = (dget σ q 0 3).bind fun v => den mX0_guardedIfs 17 [l0, l1, l2, l3] (v :: st) σ) ∧
  (∀ (l0 l1 l2 : Option Value) (x : Int32) (st : List Value) (σ : dS), den mX0_guardedIfs 17 [l0, l1, l2, some (.int x)] st σ = den mX0_guardedIfs 18 [l0, l1, l2, some (.int x)] (.int x :: st) σ) ∧
  (∀ (l0 l1 l2 l3 : Option Value) (q : Nat) (i : Int32) (st : List Value) (σ : dS), den mX0_guardedIfs 18 [l0, l1, l2, l3] (.int i :: .ref q :: st) σ = (dbld σ q i).bind fun v => den mX0_guardedIfs 19 [l0, l1, l2, l3] (.int v :: st) σ) ∧
  (∀ (l0 l1 l2 l3 : Option Value) (a0 : Int32) (b0 : Int32) (σ : dS), den mX0_guardedIfs 19 [l0, l1, l2, l3] [.int a0, .int b0] σ = (dcall mX6_oneIf [.int a0] σ).bind fun r => den mX0_guardedIfs 22 [l0, l1, l2, l3] (r.1.toList ++ [.int b0]) r.2) ∧
  (∀ (l0 l1 l2 l3 : Option Value) (x y : Int32) (st : List Value) (σ : dS), den mX0_guardedIfs 22 [l0, l1, l2, l3] (.int y :: .int x :: st) σ = den mX0_guardedIfs 23 [l0, l1, l2, l3] (.int (x + y) :: st) σ) ∧
  (∀ (l0 l2 l3 : Option Value) (x : Int32) (y : Nat) (st : List Value) (σ : dS), den mX0_guardedIfs 23 [l0, some (.ref y), l2, l3] (.int x :: st) σ = den mX0_guardedIfs 24 [l0, some (.ref y), some (.int x), l3] st σ) ∧
  (∀ (l0 l1 : Option Value) (x : Int32) (y : Int32) (st : List Value) (σ : dS), den mX0_guardedIfs 24 [l0, l1, some (.int y), some (.int x)] st σ = den mX0_guardedIfs 27 [l0, l1, some (.int y), some (.int (x + nI 1))] st σ) ∧
  (∀ (l0 l1 l2 l3 : Option Value) (st : List Value) (σ : dS), den mX0_guardedIfs 27 [l0, l1, l2, l3] st σ = den mX0_guardedIfs 4 [l0, l1, l2, l3] st σ) ∧
  (∀ (l0 l1 l3 : Option Value) (x : Int32) (st : List Value) (σ : dS), den mX0_guardedIfs 30 [l0, l1, some (.int x), l3] st σ = den mX0_guardedIfs 31 [l0, l1, some (.int x), l3] (.int x :: st) σ) ∧
  (∀ (l0 l1 l2 l3 : Option Value) (v : Int32) (σ : dS), den mX0_guardedIfs 31 [l0, l1, l2, l3] [.int v] σ = some (some (.int v), σ)) :=
  ⟨fun l0 l1 l2 l3 st σ => dn_iconst eX0_guardedIfs dX0_guardedIfs_0 kc_iconst_0,
  fun l0 l2 l3 x y st σ => dn_istore_n eX0_guardedIfs dX0_guardedIfs_1 rfl,
  fun l0 l1 l2 l3 st σ => dn_iconst eX0_guardedIfs dX0_guardedIfs_2 kc_iconst_0,
  fun l0 l1 l3 x y st σ => dn_istore_n eX0_guardedIfs dX0_guardedIfs_3 rfl,
  fun l0 l2 l3 x st σ => dn_aload_n eX0_guardedIfs dX0_guardedIfs_5 rfl,
  fun l0 l1 l2 l3 q st σ => dn_getfield (f := (2, 8, 116)) eX0_guardedIfs dX0_guardedIfs_6 (by decide +kernel),
  fun l0 l1 l2 l3 x y st σ => dn_icmp_ge eX0_guardedIfs dX0_guardedIfs_9 (by decide),
  fun l0 l1 l3 x st σ => dn_iload_n eX0_guardedIfs dX0_guardedIfs_12 rfl,
  fun l1 l2 l3 x st σ => dn_aload_n eX0_guardedIfs dX0_guardedIfs_13 rfl,
  fun l0 l1 l2 l3 q st σ => dn_getfield (f := (0, 3, 197)) eX0_guardedIfs dX0_guardedIfs_14 (by decide +kernel),
  fun l0 l1 l2 x st σ => dn_iload_n eX0_guardedIfs dX0_guardedIfs_17 rfl,
  fun l0 l1 l2 l3 q i st σ => dn_baload eX0_guardedIfs dX0_guardedIfs_18,
  fun l0 l1 l2 l3 a0 b0 σ => dn_callS (e := (2, 9, 487)) (as := [.int a0]) (rest := [.int b0]) eX0_guardedIfs dX0_guardedIfs_19 (by decide +kernel) (Or.inr rfl) (by decide +kernel) rfl (dcat_le rfl) (dlen_le rfl) rfl,
  fun l0 l1 l2 l3 x y st σ => dn_iadd eX0_guardedIfs dX0_guardedIfs_22,
  fun l0 l2 l3 x y st σ => dn_istore_n eX0_guardedIfs dX0_guardedIfs_23 rfl,
  fun l0 l1 x y st σ => dn_iinc (v := nI 1) eX0_guardedIfs dX0_guardedIfs_24 rfl kc_iconst_1 rfl,
  fun l0 l1 l2 l3 st σ => dn_goto eX0_guardedIfs dX0_guardedIfs_27 (by decide),
  fun l0 l1 l3 x st σ => dn_iload_n eX0_guardedIfs dX0_guardedIfs_30 rfl,
  fun l0 l1 l2 l3 v σ => dn_ireturn eX0_guardedIfs dX0_guardedIfs_31 rfl⟩
theorem CX1_howManyWays (a0 : Nat) (σ : dS) : dcall mX1_howManyWays [.ref a0] σ = den mX1_howManyWays 0 [some (.ref a0)] [] σ := dcall_den (by decide) rfl
set_option maxRecDepth 20000 in
theorem SX1_howManyWays : (∀ (l0 : Option Value) (st : List Value) (σ : dS), den mX1_howManyWays 0 [l0] st σ = den mX1_howManyWays 1 [l0] (.int (nI 1) :: st) σ) ∧
  (∀ (x : Nat) (st : List Value) (σ : dS), den mX1_howManyWays 1 [some (.ref x)] st σ = den mX1_howManyWays 2 [some (.ref x)] (.ref x :: st) σ) ∧
  (∀ (l0 : Option Value) (q : Nat) (st : List Value) (σ : dS), den mX1_howManyWays 2 [l0] (.ref q :: st) σ = (dget σ q 2 8).bind fun v => den mX1_howManyWays 5 [l0] (v :: st) σ) ∧
  (∀ (l0 : Option Value) (x y : Int32) (st : List Value) (σ : dS), den mX1_howManyWays 5 [l0] (.int y :: .int x :: st) σ = den mX1_howManyWays 6 [l0] (.int (x <<< (y &&& 31)) :: st) σ) ∧
  (∀ (l0 : Option Value) (v : Int32) (σ : dS), den mX1_howManyWays 6 [l0] [.int v] σ = some (some (.int v), σ)) :=
  ⟨fun l0 st σ => dn_iconst eX1_howManyWays dX1_howManyWays_0 kc_iconst_1,
  fun x st σ => dn_aload_n eX1_howManyWays dX1_howManyWays_1 rfl,
  fun l0 q st σ => dn_getfield (f := (2, 8, 114)) eX1_howManyWays dX1_howManyWays_2 (by decide +kernel),
  fun l0 x y st σ => dn_ishl eX1_howManyWays dX1_howManyWays_5,
  fun l0 v σ => dn_ireturn eX1_howManyWays dX1_howManyWays_6 rfl⟩
theorem CX1_holding (a0 : Nat) (a1 : Int32) (σ : dS) : dcall mX1_holding [.ref a0, .int a1] σ = den mX1_holding 0 [some (.ref a0), some (.int a1), none, none, none] [] σ := dcall_den (by decide) rfl
theorem hX1_holding_4 (l0 l1 l2 l4 : Option Value) (x : Int32) (st : List Value) (σ : dS) : den mX1_holding 4 [l0, l1, l2, some (.int x), l4] st σ = den mX1_holding 5 [l0, l1, l2, some (.int x), l4] (.int x :: st) σ := dn_iload_n eX1_holding dX1_holding_4 rfl
theorem rX1_holding_23 (l0 l1 l2 l3 l4 : Option Value) (a0 : Int32) (b0 : Int32) (q : Nat) (σ : dS) : den mX1_holding 23 [l0, l1, l2, l3, l4] [.int a0, .ref q, .int b0] σ = if disO σ q 2 = true then ((dcall mX3_parentOf [.ref q, .int a0] σ).bind fun r => den mX1_holding 26 [l0, l1, l2, l3, l4] (r.1.toList ++ [.int b0]) r.2) else none := by
  by_cases h : disO σ q 2 = true
  · rw [if_pos h]; exact dn_callV (e := (0, 5, 544)) (as := [.int a0]) (rest := [.int b0]) eX1_holding dX1_holding_23 (by decide +kernel) rfl (by decide +kernel) rfl (dcat_le rfl) (dlen_le rfl) rfl h
  · rw [if_neg h]; exact den_noV (e := (0, 5, 544)) (as := [.int a0]) (rest := [.int b0]) eX1_holding dX1_holding_23 (by decide +kernel) rfl rfl rfl h
set_option maxRecDepth 20000 in
theorem SX1_holding_0 : (∀ (l0 l1 l2 l3 l4 : Option Value) (st : List Value) (σ : dS), den mX1_holding 0 [l0, l1, l2, l3, l4] st σ = den mX1_holding 1 [l0, l1, l2, l3, l4] (.int (nI 1) :: st) σ) ∧
  (∀ (l0 l2 l3 l4 : Option Value) (x : Int32) (y : Int32) (st : List Value) (σ : dS), den mX1_holding 1 [l0, some (.int y), l2, l3, l4] (.int x :: st) σ = den mX1_holding 2 [l0, some (.int y), some (.int x), l3, l4] st σ) ∧
  (∀ (l0 l1 l2 l3 l4 : Option Value) (st : List Value) (σ : dS), den mX1_holding 2 [l0, l1, l2, l3, l4] st σ = den mX1_holding 3 [l0, l1, l2, l3, l4] (.int (nI 0) :: st) σ) ∧
  (∀ (l0 l1 l3 l4 : Option Value) (x : Int32) (y : Int32) (st : List Value) (σ : dS), den mX1_holding 3 [l0, l1, some (.int y), l3, l4] (.int x :: st) σ = den mX1_holding 4 [l0, l1, some (.int y), some (.int x), l4] st σ) ∧
  (∀ (l1 l2 l3 l4 : Option Value) (x : Nat) (st : List Value) (σ : dS), den mX1_holding 5 [some (.ref x), l1, l2, l3, l4] st σ = den mX1_holding 6 [some (.ref x), l1, l2, l3, l4] (.ref x :: st) σ) ∧
  (∀ (l0 l1 l2 l3 l4 : Option Value) (q : Nat) (st : List Value) (σ : dS), den mX1_holding 6 [l0, l1, l2, l3, l4] (.ref q :: st) σ = (dget σ q 2 8).bind fun v => den mX1_holding 9 [l0, l1, l2, l3, l4] (v :: st) σ) ∧
  (∀ (l0 l1 l2 l3 l4 : Option Value) (x y : Int32) (st : List Value) (σ : dS), den mX1_holding 9 [l0, l1, l2, l3, l4] (.int y :: .int x :: st) σ = if x < y then den mX1_holding 12 [l0, l1, l2, l3, l4] st σ else den mX1_holding 62 [l0, l1, l2, l3, l4] st σ) ∧
  (∀ (l0 l1 l2 l3 l4 : Option Value) (st : List Value) (σ : dS), den mX1_holding 12 [l0, l1, l2, l3, l4] st σ = den mX1_holding 13 [l0, l1, l2, l3, l4] (.int (nI 2) :: st) σ) ∧
  (∀ (l0 l1 l2 l4 : Option Value) (x : Int32) (st : List Value) (σ : dS), den mX1_holding 13 [l0, l1, l2, some (.int x), l4] st σ = den mX1_holding 14 [l0, l1, l2, some (.int x), l4] (.int x :: st) σ) ∧
  (∀ (l0 l1 l2 l3 l4 : Option Value) (x y : Int32) (st : List Value) (σ : dS), den mX1_holding 14 [l0, l1, l2, l3, l4] (.int y :: .int x :: st) σ = den mX1_holding 15 [l0, l1, l2, l3, l4] (.int (x * y) :: st) σ) ∧
  (∀ (l0 l1 l2 l3 l4 : Option Value) (st : List Value) (σ : dS), den mX1_holding 15 [l0, l1, l2, l3, l4] st σ = den mX1_holding 16 [l0, l1, l2, l3, l4] (.int (nI 1) :: st) σ) ∧
  (∀ (l0 l1 l2 l3 l4 : Option Value) (x y : Int32) (st : List Value) (σ : dS), den mX1_holding 16 [l0, l1, l2, l3, l4] (.int y :: .int x :: st) σ = den mX1_holding 17 [l0, l1, l2, l3, l4] (.int (x + y) :: st) σ) ∧
  (∀ (l0 l1 l2 l4 : Option Value) (x : Int32) (y : Int32) (st : List Value) (σ : dS), den mX1_holding 17 [l0, l1, l2, some (.int y), l4] (.int x :: st) σ = den mX1_holding 19 [l0, l1, l2, some (.int y), some (.int x)] st σ) ∧
  (∀ (l0 l1 l3 l4 : Option Value) (x : Int32) (st : List Value) (σ : dS), den mX1_holding 19 [l0, l1, some (.int x), l3, l4] st σ = den mX1_holding 20 [l0, l1, some (.int x), l3, l4] (.int x :: st) σ) ∧
  (∀ (l1 l2 l3 l4 : Option Value) (x : Nat) (st : List Value) (σ : dS), den mX1_holding 20 [some (.ref x), l1, l2, l3, l4] st σ = den mX1_holding 21 [some (.ref x), l1, l2, l3, l4] (.ref x :: st) σ) ∧
  (∀ (l0 l1 l2 l3 : Option Value) (x : Int32) (st : List Value) (σ : dS), den mX1_holding 21 [l0, l1, l2, l3, some (.int x)] st σ = den mX1_holding 23 [l0, l1, l2, l3, some (.int x)] (.int x :: st) σ) ∧
  (∀ (l0 l1 l2 l3 l4 : Option Value) (a0 : Int32) (b0 : Int32) (q : Nat) (σ : dS), den mX1_holding 23 [l0, l1, l2, l3, l4] [.int a0, .ref q, .int b0] σ = if disO σ q 2 = true then ((dcall mX3_parentOf [.ref q, .int a0] σ).bind fun r => den mX1_holding 26 [l0, l1, l2, l3, l4] (r.1.toList ++ [.int b0]) r.2) else none) ∧
  (∀ (l0 l1 l2 l3 l4 : Option Value) (x y : Int32) (st : List Value) (σ : dS), den mX1_holding 26 [l0, l1, l2, l3, l4] (.int y :: .int x :: st) σ = den mX1_holding 27 [l0, l1, l2, l3, l4] (.int (x >>> (y &&& 31)) :: st) σ) ∧
  (∀ (l0 l1 l2 l3 l4 : Option Value) (st : List Value) (σ : dS), den mX1_holding 27 [l0, l1, l2, l3, l4] st σ = den mX1_holding 28 [l0, l1, l2, l3, l4] (.int (nI 1) :: st) σ) ∧
  (∀ (l0 l1 l2 l3 l4 : Option Value) (x y : Int32) (st : List Value) (σ : dS), den mX1_holding 28 [l0, l1, l2, l3, l4] (.int y :: .int x :: st) σ = den mX1_holding 29 [l0, l1, l2, l3, l4] (.int (x &&& y) :: st) σ) ∧
  (∀ (l0 l1 l2 l3 l4 : Option Value) (st : List Value) (σ : dS), den mX1_holding 29 [l0, l1, l2, l3, l4] st σ = den mX1_holding 30 [l0, l1, l2, l3, l4] (.int (nI 1) :: st) σ) ∧
  (∀ (l0 l1 l2 l3 l4 : Option Value) (x y : Int32) (st : List Value) (σ : dS), den mX1_holding 30 [l0, l1, l2, l3, l4] (.int y :: .int x :: st) σ = if x = y then den mX1_holding 33 [l0, l1, l2, l3, l4] st σ else den mX1_holding 56 [l0, l1, l2, l3, l4] st σ) ∧
  (∀ (l0 l1 l3 l4 : Option Value) (x : Int32) (st : List Value) (σ : dS), den mX1_holding 33 [l0, l1, some (.int x), l3, l4] st σ = den mX1_holding 34 [l0, l1, some (.int x), l3, l4] (.int x :: st) σ) ∧
  (∀ (l0 l1 l2 l3 l4 : Option Value) (st : List Value) (σ : dS), den mX1_holding 34 [l0, l1, l2, l3, l4] st σ = den mX1_holding 35 [l0, l1, l2, l3, l4] (.int (nI 1) :: st) σ) ∧
  (∀ (l0 l2 l3 l4 : Option Value) (x : Int32) (st : List Value) (σ : dS), den mX1_holding 35 [l0, some (.int x), l2, l3, l4] st σ = den mX1_holding 36 [l0, some (.int x), l2, l3, l4] (.int x :: st) σ) ∧
  (∀ (l0 l1 l2 l4 : Option Value) (x : Int32) (st : List Value) (σ : dS), den mX1_holding 36 [l0, l1, l2, some (.int x), l4] st σ = den mX1_holding 37 [l0, l1, l2, some (.int x), l4] (.int x :: st) σ) ∧
  (∀ (l0 l1 l2 l3 l4 : Option Value) (x y : Int32) (st : List Value) (σ : dS), den mX1_holding 37 [l0, l1, l2, l3, l4] (.int y :: .int x :: st) σ = den mX1_holding 38 [l0, l1, l2, l3, l4] (.int (x >>> (y &&& 31)) :: st) σ) ∧
  (∀ (l0 l1 l2 l3 l4 : Option Value) (st : List Value) (σ : dS), den mX1_holding 38 [l0, l1, l2, l3, l4] st σ = den mX1_holding 39 [l0, l1, l2, l3, l4] (.int (nI 1) :: st) σ) ∧
  (∀ (l0 l1 l2 l3 l4 : Option Value) (x y : Int32) (st : List Value) (σ : dS), den mX1_holding 39 [l0, l1, l2, l3, l4] (.int y :: .int x :: st) σ = den mX1_holding 40 [l0, l1, l2, l3, l4] (.int (x &&& y) :: st) σ) ∧
  (∀ (l0 l1 l2 l3 l4 : Option Value) (st : List Value) (σ : dS), den mX1_holding 40 [l0, l1, l2, l3, l4] st σ = den mX1_holding 41 [l0, l1, l2, l3, l4] (.int (nI 1) :: st) σ) ∧
  (∀ (l0 l1 l2 l3 l4 : Option Value) (x y : Int32) (st : List Value) (σ : dS), den mX1_holding 41 [l0, l1, l2, l3, l4] (.int y :: .int x :: st) σ = if x = y then den mX1_holding 44 [l0, l1, l2, l3, l4] st σ else den mX1_holding 49 [l0, l1, l2, l3, l4] st σ) ∧
  (∀ (l0 l1 l2 l3 : Option Value) (x : Int32) (st : List Value) (σ : dS), den mX1_holding 44 [l0, l1, l2, l3, some (.int x)] st σ = den mX1_holding 46 [l0, l1, l2, l3, some (.int x)] (.int x :: st) σ) ∧
  (∀ (l0 l1 l2 l3 l4 : Option Value) (st : List Value) (σ : dS), den mX1_holding 46 [l0, l1, l2, l3, l4] st σ = den mX1_holding 53 [l0, l1, l2, l3, l4] st σ) ∧
  (∀ (l0 l1 l2 l3 : Option Value) (x : Int32) (st : List Value) (σ : dS), den mX1_holding 49 [l0, l1, l2, l3, some (.int x)] st σ = den mX1_holding 51 [l0, l1, l2, l3, some (.int x)] (.int x :: st) σ) ∧
  (∀ (l0 l1 l2 l3 l4 : Option Value) (st : List Value) (σ : dS), den mX1_holding 51 [l0, l1, l2, l3, l4] st σ = den mX1_holding 52 [l0, l1, l2, l3, l4] (.int (nI 1) :: st) σ) ∧
  (∀ (l0 l1 l2 l3 l4 : Option Value) (x y : Int32) (st : List Value) (σ : dS), den mX1_holding 52 [l0, l1, l2, l3, l4] (.int y :: .int x :: st) σ = den mX1_holding 53 [l0, l1, l2, l3, l4] (.int (x + y) :: st) σ) ∧
  (∀ (l0 l1 l2 l3 l4 : Option Value) (x y : Int32) (st : List Value) (σ : dS), den mX1_holding 53 [l0, l1, l2, l3, l4] (.int y :: .int x :: st) σ = den mX1_holding 54 [l0, l1, l2, l3, l4] (.int (x <<< (y &&& 31)) :: st) σ) ∧
  (∀ (l0 l1 l2 l3 l4 : Option Value) (x y : Int32) (st : List Value) (σ : dS), den mX1_holding 54 [l0, l1, l2, l3, l4] (.int y :: .int x :: st) σ = den mX1_holding 55 [l0, l1, l2, l3, l4] (.int (x ||| y) :: st) σ) ∧
  (∀ (l0 l2 l3 l4 : Option Value) (x : Int32) (y : Int32) (st : List Value) (σ : dS), den mX1_holding 55 [l0, some (.int y), l2, l3, l4] (.int x :: st) σ = den mX1_holding 56 [l0, some (.int y), some (.int x), l3, l4] st σ) ∧
  (∀ (l0 l1 l4 : Option Value) (x : Int32) (y : Int32) (st : List Value) (σ : dS), den mX1_holding 56 [l0, l1, some (.int y), some (.int x), l4] st σ = den mX1_holding 59 [l0, l1, some (.int y), some (.int (x + nI 1)), l4] st σ) :=
  ⟨fun l0 l1 l2 l3 l4 st σ => dn_iconst eX1_holding dX1_holding_0 kc_iconst_1,
  fun l0 l2 l3 l4 x y st σ => dn_istore_n eX1_holding dX1_holding_1 rfl,
  fun l0 l1 l2 l3 l4 st σ => dn_iconst eX1_holding dX1_holding_2 kc_iconst_0,
  fun l0 l1 l3 l4 x y st σ => dn_istore_n eX1_holding dX1_holding_3 rfl,
  fun l1 l2 l3 l4 x st σ => dn_aload_n eX1_holding dX1_holding_5 rfl,
  fun l0 l1 l2 l3 l4 q st σ => dn_getfield (f := (2, 8, 114)) eX1_holding dX1_holding_6 (by decide +kernel),
  fun l0 l1 l2 l3 l4 x y st σ => dn_icmp_ge eX1_holding dX1_holding_9 (by decide),
  fun l0 l1 l2 l3 l4 st σ => dn_iconst eX1_holding dX1_holding_12 kc_iconst_2,
  fun l0 l1 l2 l4 x st σ => dn_iload_n eX1_holding dX1_holding_13 rfl,
  fun l0 l1 l2 l3 l4 x y st σ => dn_imul eX1_holding dX1_holding_14,
  fun l0 l1 l2 l3 l4 st σ => dn_iconst eX1_holding dX1_holding_15 kc_iconst_1,
  fun l0 l1 l2 l3 l4 x y st σ => dn_iadd eX1_holding dX1_holding_16,
  fun l0 l1 l2 l4 x y st σ => dn_istore eX1_holding dX1_holding_17 rfl,
  fun l0 l1 l3 l4 x st σ => dn_iload_n eX1_holding dX1_holding_19 rfl,
  fun l1 l2 l3 l4 x st σ => dn_aload_n eX1_holding dX1_holding_20 rfl,
  fun l0 l1 l2 l3 x st σ => dn_iload eX1_holding dX1_holding_21 rfl,
  fun l0 l1 l2 l3 l4 a0 b0 q σ => rX1_holding_23 l0 l1 l2 l3 l4 a0 b0 q σ,
  fun l0 l1 l2 l3 l4 x y st σ => dn_ishr eX1_holding dX1_holding_26,
  fun l0 l1 l2 l3 l4 st σ => dn_iconst eX1_holding dX1_holding_27 kc_iconst_1,
  fun l0 l1 l2 l3 l4 x y st σ => dn_iand eX1_holding dX1_holding_28,
  fun l0 l1 l2 l3 l4 st σ => dn_iconst eX1_holding dX1_holding_29 kc_iconst_1,
  fun l0 l1 l2 l3 l4 x y st σ => dn_icmp_ne eX1_holding dX1_holding_30 (by decide),
  fun l0 l1 l3 l4 x st σ => dn_iload_n eX1_holding dX1_holding_33 rfl,
  fun l0 l1 l2 l3 l4 st σ => dn_iconst eX1_holding dX1_holding_34 kc_iconst_1,
  fun l0 l2 l3 l4 x st σ => dn_iload_n eX1_holding dX1_holding_35 rfl,
  fun l0 l1 l2 l4 x st σ => dn_iload_n eX1_holding dX1_holding_36 rfl,
  fun l0 l1 l2 l3 l4 x y st σ => dn_ishr eX1_holding dX1_holding_37,
  fun l0 l1 l2 l3 l4 st σ => dn_iconst eX1_holding dX1_holding_38 kc_iconst_1,
  fun l0 l1 l2 l3 l4 x y st σ => dn_iand eX1_holding dX1_holding_39,
  fun l0 l1 l2 l3 l4 st σ => dn_iconst eX1_holding dX1_holding_40 kc_iconst_1,
  fun l0 l1 l2 l3 l4 x y st σ => dn_icmp_ne eX1_holding dX1_holding_41 (by decide),
  fun l0 l1 l2 l3 x st σ => dn_iload eX1_holding dX1_holding_44 rfl,
  fun l0 l1 l2 l3 l4 st σ => dn_goto eX1_holding dX1_holding_46 (by decide),
  fun l0 l1 l2 l3 x st σ => dn_iload eX1_holding dX1_holding_49 rfl,
  fun l0 l1 l2 l3 l4 st σ => dn_iconst eX1_holding dX1_holding_51 kc_iconst_1,
  fun l0 l1 l2 l3 l4 x y st σ => dn_iadd eX1_holding dX1_holding_52,
  fun l0 l1 l2 l3 l4 x y st σ => dn_ishl eX1_holding dX1_holding_53,
  fun l0 l1 l2 l3 l4 x y st σ => dn_ior eX1_holding dX1_holding_54,
  fun l0 l2 l3 l4 x y st σ => dn_istore_n eX1_holding dX1_holding_55 rfl,
  fun l0 l1 l4 x y st σ => dn_iinc (v := nI 1) eX1_holding dX1_holding_56 rfl kc_iconst_1 rfl⟩
set_option maxRecDepth 20000 in
theorem SX1_holding_1 : (∀ (l0 l1 l2 l3 l4 : Option Value) (st : List Value) (σ : dS), den mX1_holding 59 [l0, l1, l2, l3, l4] st σ = den mX1_holding 4 [l0, l1, l2, l3, l4] st σ) ∧
  (∀ (l0 l1 l3 l4 : Option Value) (x : Int32) (st : List Value) (σ : dS), den mX1_holding 62 [l0, l1, some (.int x), l3, l4] st σ = den mX1_holding 63 [l0, l1, some (.int x), l3, l4] (.int x :: st) σ) ∧
  (∀ (l0 l1 l2 l3 l4 : Option Value) (v : Int32) (σ : dS), den mX1_holding 63 [l0, l1, l2, l3, l4] [.int v] σ = some (some (.int v), σ)) :=
  ⟨fun l0 l1 l2 l3 l4 st σ => dn_goto eX1_holding dX1_holding_59 (by decide),
  fun l0 l1 l3 l4 x st σ => dn_iload_n eX1_holding dX1_holding_62 rfl,
  fun l0 l1 l2 l3 l4 v σ => dn_ireturn eX1_holding dX1_holding_63 rfl⟩
theorem CX1_neverBoth (a0 : Nat) (a1 : Int32) (a2 : Int32) (σ : dS) : dcall mX1_neverBoth [.ref a0, .int a1, .int a2] σ = den mX1_neverBoth 0 [some (.ref a0), some (.int a1), some (.int a2), none, none] [] σ := dcall_den (by decide) rfl
theorem hX1_neverBoth_11 (l0 l1 l2 l3 : Option Value) (x : Int32) (st : List Value) (σ : dS) : den mX1_neverBoth 11 [l0, l1, l2, l3, some (.int x)] st σ = den mX1_neverBoth 13 [l0, l1, l2, l3, some (.int x)] (.int x :: st) σ := dn_iload eX1_neverBoth dX1_neverBoth_11 rfl
set_option maxRecDepth 20000 in
theorem SX1_neverBoth : (∀ (l0 l1 l2 l3 l4 : Option Value) (st : List Value) (σ : dS), den mX1_neverBoth 0 [l0, l1, l2, l3, l4] st σ = den mX1_neverBoth 1 [l0, l1, l2, l3, l4] (.int (nI 1) :: st) σ) ∧
  (∀ (l0 l2 l3 l4 : Option Value) (x : Int32) (st : List Value) (σ : dS), den mX1_neverBoth 1 [l0, some (.int x), l2, l3, l4] st σ = den mX1_neverBoth 2 [l0, some (.int x), l2, l3, l4] (.int x :: st) σ) ∧
  (∀ (l0 l1 l2 l3 l4 : Option Value) (x y : Int32) (st : List Value) (σ : dS), den mX1_neverBoth 2 [l0, l1, l2, l3, l4] (.int y :: .int x :: st) σ = den mX1_neverBoth 3 [l0, l1, l2, l3, l4] (.int (x <<< (y &&& 31)) :: st) σ) ∧
  (∀ (l0 l1 l2 l3 l4 : Option Value) (st : List Value) (σ : dS), den mX1_neverBoth 3 [l0, l1, l2, l3, l4] st σ = den mX1_neverBoth 4 [l0, l1, l2, l3, l4] (.int (nI 1) :: st) σ) ∧
  (∀ (l0 l1 l3 l4 : Option Value) (x : Int32) (st : List Value) (σ : dS), den mX1_neverBoth 4 [l0, l1, some (.int x), l3, l4] st σ = den mX1_neverBoth 5 [l0, l1, some (.int x), l3, l4] (.int x :: st) σ) ∧
  (∀ (l0 l1 l2 l3 l4 : Option Value) (x y : Int32) (st : List Value) (σ : dS), den mX1_neverBoth 5 [l0, l1, l2, l3, l4] (.int y :: .int x :: st) σ = den mX1_neverBoth 6 [l0, l1, l2, l3, l4] (.int (x <<< (y &&& 31)) :: st) σ) ∧
  (∀ (l0 l1 l2 l3 l4 : Option Value) (x y : Int32) (st : List Value) (σ : dS), den mX1_neverBoth 6 [l0, l1, l2, l3, l4] (.int y :: .int x :: st) σ = den mX1_neverBoth 7 [l0, l1, l2, l3, l4] (.int (x ||| y) :: st) σ) ∧
  (∀ (l0 l1 l3 l4 : Option Value) (x : Int32) (y : Int32) (st : List Value) (σ : dS), den mX1_neverBoth 7 [l0, l1, some (.int y), l3, l4] (.int x :: st) σ = den mX1_neverBoth 8 [l0, l1, some (.int y), some (.int x), l4] st σ) ∧
  (∀ (l0 l1 l2 l3 l4 : Option Value) (st : List Value) (σ : dS), den mX1_neverBoth 8 [l0, l1, l2, l3, l4] st σ = den mX1_neverBoth 9 [l0, l1, l2, l3, l4] (.int (nI 0) :: st) σ) ∧
  (∀ (l0 l1 l2 l4 : Option Value) (x : Int32) (y : Int32) (st : List Value) (σ : dS), den mX1_neverBoth 9 [l0, l1, l2, some (.int y), l4] (.int x :: st) σ = den mX1_neverBoth 11 [l0, l1, l2, some (.int y), some (.int x)] st σ) ∧
  (∀ (l1 l2 l3 l4 : Option Value) (x : Nat) (st : List Value) (σ : dS), den mX1_neverBoth 13 [some (.ref x), l1, l2, l3, l4] st σ = den mX1_neverBoth 14 [some (.ref x), l1, l2, l3, l4] (.ref x :: st) σ) ∧
  (∀ (l0 l1 l2 l3 l4 : Option Value) (a0 : Nat) (b0 : Int32) (σ : dS), den mX1_neverBoth 14 [l0, l1, l2, l3, l4] [.ref a0, .int b0] σ = (dcall mX1_howManyWays [.ref a0] σ).bind fun r => den mX1_neverBoth 17 [l0, l1, l2, l3, l4] (r.1.toList ++ [.int b0]) r.2) ∧
  (∀ (l0 l1 l2 l3 l4 : Option Value) (x y : Int32) (st : List Value) (σ : dS), den mX1_neverBoth 17 [l0, l1, l2, l3, l4] (.int y :: .int x :: st) σ = if x < y then den mX1_neverBoth 20 [l0, l1, l2, l3, l4] st σ else den mX1_neverBoth 40 [l0, l1, l2, l3, l4] st σ) ∧
  (∀ (l1 l2 l3 l4 : Option Value) (x : Nat) (st : List Value) (σ : dS), den mX1_neverBoth 20 [some (.ref x), l1, l2, l3, l4] st σ = den mX1_neverBoth 21 [some (.ref x), l1, l2, l3, l4] (.ref x :: st) σ) ∧
  (∀ (l0 l1 l2 l3 : Option Value) (x : Int32) (st : List Value) (σ : dS), den mX1_neverBoth 21 [l0, l1, l2, l3, some (.int x)] st σ = den mX1_neverBoth 23 [l0, l1, l2, l3, some (.int x)] (.int x :: st) σ) ∧
  (∀ (l0 l1 l2 l3 l4 : Option Value) (a0 : Nat) (a1 : Int32) (σ : dS), den mX1_neverBoth 23 [l0, l1, l2, l3, l4] [.int a1, .ref a0] σ = (dcall mX1_holding [.ref a0, .int a1] σ).bind fun r => den mX1_neverBoth 26 [l0, l1, l2, l3, l4] (r.1.toList ++ []) r.2) ∧
  (∀ (l0 l1 l2 l4 : Option Value) (x : Int32) (st : List Value) (σ : dS), den mX1_neverBoth 26 [l0, l1, l2, some (.int x), l4] st σ = den mX1_neverBoth 27 [l0, l1, l2, some (.int x), l4] (.int x :: st) σ) ∧
  (∀ (l0 l1 l2 l3 l4 : Option Value) (x y : Int32) (st : List Value) (σ : dS), den mX1_neverBoth 27 [l0, l1, l2, l3, l4] (.int y :: .int x :: st) σ = den mX1_neverBoth 28 [l0, l1, l2, l3, l4] (.int (x &&& y) :: st) σ) ∧
  (∀ (l0 l1 l2 l4 : Option Value) (x : Int32) (st : List Value) (σ : dS), den mX1_neverBoth 28 [l0, l1, l2, some (.int x), l4] st σ = den mX1_neverBoth 29 [l0, l1, l2, some (.int x), l4] (.int x :: st) σ) ∧
  (∀ (l0 l1 l2 l3 l4 : Option Value) (x y : Int32) (st : List Value) (σ : dS), den mX1_neverBoth 29 [l0, l1, l2, l3, l4] (.int y :: .int x :: st) σ = if x = y then den mX1_neverBoth 32 [l0, l1, l2, l3, l4] st σ else den mX1_neverBoth 34 [l0, l1, l2, l3, l4] st σ) ∧
  (∀ (l0 l1 l2 l3 l4 : Option Value) (st : List Value) (σ : dS), den mX1_neverBoth 32 [l0, l1, l2, l3, l4] st σ = den mX1_neverBoth 33 [l0, l1, l2, l3, l4] (.int (nI 0) :: st) σ) ∧
  (∀ (l0 l1 l2 l3 l4 : Option Value) (v : Int32) (σ : dS), den mX1_neverBoth 33 [l0, l1, l2, l3, l4] [.int v] σ = if v = 0 ∨ v = 1 then some (some (.int v), σ) else none) ∧
  (∀ (l0 l1 l2 : Option Value) (x : Int32) (y : Int32) (st : List Value) (σ : dS), den mX1_neverBoth 34 [l0, l1, l2, some (.int y), some (.int x)] st σ = den mX1_neverBoth 37 [l0, l1, l2, some (.int y), some (.int (x + nI 1))] st σ) ∧
  (∀ (l0 l1 l2 l3 l4 : Option Value) (st : List Value) (σ : dS), den mX1_neverBoth 37 [l0, l1, l2, l3, l4] st σ = den mX1_neverBoth 11 [l0, l1, l2, l3, l4] st σ) ∧
  (∀ (l0 l1 l2 l3 l4 : Option Value) (st : List Value) (σ : dS), den mX1_neverBoth 40 [l0, l1, l2, l3, l4] st σ = den mX1_neverBoth 41 [l0, l1, l2, l3, l4] (.int (nI 1) :: st) σ) ∧
  (∀ (l0 l1 l2 l3 l4 : Option Value) (v : Int32) (σ : dS), den mX1_neverBoth 41 [l0, l1, l2, l3, l4] [.int v] σ = if v = 0 ∨ v = 1 then some (some (.int v), σ) else none) :=
  ⟨fun l0 l1 l2 l3 l4 st σ => dn_iconst eX1_neverBoth dX1_neverBoth_0 kc_iconst_1,
  fun l0 l2 l3 l4 x st σ => dn_iload_n eX1_neverBoth dX1_neverBoth_1 rfl,
  fun l0 l1 l2 l3 l4 x y st σ => dn_ishl eX1_neverBoth dX1_neverBoth_2,
  fun l0 l1 l2 l3 l4 st σ => dn_iconst eX1_neverBoth dX1_neverBoth_3 kc_iconst_1,
  fun l0 l1 l3 l4 x st σ => dn_iload_n eX1_neverBoth dX1_neverBoth_4 rfl,
  fun l0 l1 l2 l3 l4 x y st σ => dn_ishl eX1_neverBoth dX1_neverBoth_5,
  fun l0 l1 l2 l3 l4 x y st σ => dn_ior eX1_neverBoth dX1_neverBoth_6,
  fun l0 l1 l3 l4 x y st σ => dn_istore_n eX1_neverBoth dX1_neverBoth_7 rfl,
  fun l0 l1 l2 l3 l4 st σ => dn_iconst eX1_neverBoth dX1_neverBoth_8 kc_iconst_0,
  fun l0 l1 l2 l4 x y st σ => dn_istore eX1_neverBoth dX1_neverBoth_9 rfl,
  fun l1 l2 l3 l4 x st σ => dn_aload_n eX1_neverBoth dX1_neverBoth_13 rfl,
  fun l0 l1 l2 l3 l4 a0 b0 σ => dn_callS (e := (1, 11, 538)) (as := [.ref a0]) (rest := [.int b0]) eX1_neverBoth dX1_neverBoth_14 (by decide +kernel) (Or.inl rfl) (by decide +kernel) rfl (dcat_le rfl) (dlen_le rfl) rfl,
  fun l0 l1 l2 l3 l4 x y st σ => dn_icmp_ge eX1_neverBoth dX1_neverBoth_17 (by decide),
  fun l1 l2 l3 l4 x st σ => dn_aload_n eX1_neverBoth dX1_neverBoth_20 rfl,
  fun l0 l1 l2 l3 x st σ => dn_iload eX1_neverBoth dX1_neverBoth_21 rfl,
  fun l0 l1 l2 l3 l4 a0 a1 σ => dn_callS (e := (1, 12, 541)) (as := [.ref a0, .int a1]) (rest := []) eX1_neverBoth dX1_neverBoth_23 (by decide +kernel) (Or.inl rfl) (by decide +kernel) rfl (dcat_le rfl) (dlen_le rfl) rfl,
  fun l0 l1 l2 l4 x st σ => dn_iload_n eX1_neverBoth dX1_neverBoth_26 rfl,
  fun l0 l1 l2 l3 l4 x y st σ => dn_iand eX1_neverBoth dX1_neverBoth_27,
  fun l0 l1 l2 l4 x st σ => dn_iload_n eX1_neverBoth dX1_neverBoth_28 rfl,
  fun l0 l1 l2 l3 l4 x y st σ => dn_icmp_ne eX1_neverBoth dX1_neverBoth_29 (by decide),
  fun l0 l1 l2 l3 l4 st σ => dn_iconst eX1_neverBoth dX1_neverBoth_32 kc_iconst_0,
  fun l0 l1 l2 l3 l4 v σ => dn_zreturn eX1_neverBoth dX1_neverBoth_33 rfl,
  fun l0 l1 l2 x y st σ => dn_iinc (v := nI 1) eX1_neverBoth dX1_neverBoth_34 rfl kc_iconst_1 rfl,
  fun l0 l1 l2 l3 l4 st σ => dn_goto eX1_neverBoth dX1_neverBoth_37 (by decide),
  fun l0 l1 l2 l3 l4 st σ => dn_iconst eX1_neverBoth dX1_neverBoth_40 kc_iconst_1,
  fun l0 l1 l2 l3 l4 v σ => dn_zreturn eX1_neverBoth dX1_neverBoth_41 rfl⟩
theorem CX1_isCovered (a0 : Nat) (a1 : Int32) (a2 : Int32) (σ : dS) : dcall mX1_isCovered [.ref a0, .int a1, .int a2] σ = den mX1_isCovered 0 [some (.ref a0), some (.int a1), some (.int a2), none, none] [] σ := dcall_den (by decide) rfl
theorem hX1_isCovered_2 (l0 l1 l2 l4 : Option Value) (x : Int32) (st : List Value) (σ : dS) : den mX1_isCovered 2 [l0, l1, l2, some (.int x), l4] st σ = den mX1_isCovered 3 [l0, l1, l2, some (.int x), l4] (.int x :: st) σ := dn_iload_n eX1_isCovered dX1_isCovered_2 rfl
set_option maxRecDepth 20000 in
theorem SX1_isCovered : (∀ (l0 l1 l2 l3 l4 : Option Value) (st : List Value) (σ : dS), den mX1_isCovered 0 [l0, l1, l2, l3, l4] st σ = den mX1_isCovered 1 [l0, l1, l2, l3, l4] (.int (nI 0) :: st) σ) ∧
  (∀ (l0 l1 l3 l4 : Option Value) (x : Int32) (y : Int32) (st : List Value) (σ : dS), den mX1_isCovered 1 [l0, l1, some (.int y), l3, l4] (.int x :: st) σ = den mX1_isCovered 2 [l0, l1, some (.int y), some (.int x), l4] st σ) ∧
  (∀ (l1 l2 l3 l4 : Option Value) (x : Nat) (st : List Value) (σ : dS), den mX1_isCovered 3 [some (.ref x), l1, l2, l3, l4] st σ = den mX1_isCovered 4 [some (.ref x), l1, l2, l3, l4] (.ref x :: st) σ) ∧
  (∀ (l0 l1 l2 l3 l4 : Option Value) (a0 : Nat) (b0 : Int32) (σ : dS), den mX1_isCovered 4 [l0, l1, l2, l3, l4] [.ref a0, .int b0] σ = (dcall mX1_howManyWays [.ref a0] σ).bind fun r => den mX1_isCovered 7 [l0, l1, l2, l3, l4] (r.1.toList ++ [.int b0]) r.2) ∧
  (∀ (l0 l1 l2 l3 l4 : Option Value) (x y : Int32) (st : List Value) (σ : dS), den mX1_isCovered 7 [l0, l1, l2, l3, l4] (.int y :: .int x :: st) σ = if x < y then den mX1_isCovered 10 [l0, l1, l2, l3, l4] st σ else den mX1_isCovered 42 [l0, l1, l2, l3, l4] st σ) ∧
  (∀ (l1 l2 l3 l4 : Option Value) (x : Nat) (st : List Value) (σ : dS), den mX1_isCovered 10 [some (.ref x), l1, l2, l3, l4] st σ = den mX1_isCovered 11 [some (.ref x), l1, l2, l3, l4] (.ref x :: st) σ) ∧
  (∀ (l0 l1 l2 l4 : Option Value) (x : Int32) (st : List Value) (σ : dS), den mX1_isCovered 11 [l0, l1, l2, some (.int x), l4] st σ = den mX1_isCovered 12 [l0, l1, l2, some (.int x), l4] (.int x :: st) σ) ∧
  (∀ (l0 l1 l2 l3 l4 : Option Value) (a0 : Nat) (a1 : Int32) (σ : dS), den mX1_isCovered 12 [l0, l1, l2, l3, l4] [.int a1, .ref a0] σ = (dcall mX1_holding [.ref a0, .int a1] σ).bind fun r => den mX1_isCovered 15 [l0, l1, l2, l3, l4] (r.1.toList ++ []) r.2) ∧
  (∀ (l0 l1 l2 l4 : Option Value) (x : Int32) (y : Int32) (st : List Value) (σ : dS), den mX1_isCovered 15 [l0, l1, l2, some (.int y), l4] (.int x :: st) σ = den mX1_isCovered 17 [l0, l1, l2, some (.int y), some (.int x)] st σ) ∧
  (∀ (l0 l1 l2 l3 : Option Value) (x : Int32) (st : List Value) (σ : dS), den mX1_isCovered 17 [l0, l1, l2, l3, some (.int x)] st σ = den mX1_isCovered 19 [l0, l1, l2, l3, some (.int x)] (.int x :: st) σ) ∧
  (∀ (l0 l2 l3 l4 : Option Value) (x : Int32) (st : List Value) (σ : dS), den mX1_isCovered 19 [l0, some (.int x), l2, l3, l4] st σ = den mX1_isCovered 20 [l0, some (.int x), l2, l3, l4] (.int x :: st) σ) ∧
  (∀ (l0 l1 l2 l3 l4 : Option Value) (x y : Int32) (st : List Value) (σ : dS), den mX1_isCovered 20 [l0, l1, l2, l3, l4] (.int y :: .int x :: st) σ = den mX1_isCovered 21 [l0, l1, l2, l3, l4] (.int (x >>> (y &&& 31)) :: st) σ) ∧
  (∀ (l0 l1 l2 l3 l4 : Option Value) (st : List Value) (σ : dS), den mX1_isCovered 21 [l0, l1, l2, l3, l4] st σ = den mX1_isCovered 22 [l0, l1, l2, l3, l4] (.int (nI 1) :: st) σ) ∧
  (∀ (l0 l1 l2 l3 l4 : Option Value) (x y : Int32) (st : List Value) (σ : dS), den mX1_isCovered 22 [l0, l1, l2, l3, l4] (.int y :: .int x :: st) σ = den mX1_isCovered 23 [l0, l1, l2, l3, l4] (.int (x &&& y) :: st) σ) ∧
  (∀ (l0 l1 l2 l3 l4 : Option Value) (st : List Value) (σ : dS), den mX1_isCovered 23 [l0, l1, l2, l3, l4] st σ = den mX1_isCovered 24 [l0, l1, l2, l3, l4] (.int (nI 1) :: st) σ) ∧
  (∀ (l0 l1 l2 l3 l4 : Option Value) (x y : Int32) (st : List Value) (σ : dS), den mX1_isCovered 24 [l0, l1, l2, l3, l4] (.int y :: .int x :: st) σ = if x = y then den mX1_isCovered 27 [l0, l1, l2, l3, l4] st σ else den mX1_isCovered 36 [l0, l1, l2, l3, l4] st σ) ∧
  (∀ (l0 l1 l2 l3 : Option Value) (x : Int32) (st : List Value) (σ : dS), den mX1_isCovered 27 [l0, l1, l2, l3, some (.int x)] st σ = den mX1_isCovered 29 [l0, l1, l2, l3, some (.int x)] (.int x :: st) σ) ∧
  (∀ (l0 l1 l3 l4 : Option Value) (x : Int32) (st : List Value) (σ : dS), den mX1_isCovered 29 [l0, l1, some (.int x), l3, l4] st σ = den mX1_isCovered 30 [l0, l1, some (.int x), l3, l4] (.int x :: st) σ) ∧
  (∀ (l0 l1 l2 l3 l4 : Option Value) (x y : Int32) (st : List Value) (σ : dS), den mX1_isCovered 30 [l0, l1, l2, l3, l4] (.int y :: .int x :: st) σ = den mX1_isCovered 31 [l0, l1, l2, l3, l4] (.int (x &&& y) :: st) σ) ∧
  (∀ (l0 l1 l2 l3 l4 : Option Value) (x : Int32) (st : List Value) (σ : dS), den mX1_isCovered 31 [l0, l1, l2, l3, l4] (.int x :: st) σ = if x = 0 then den mX1_isCovered 34 [l0, l1, l2, l3, l4] st σ else den mX1_isCovered 36 [l0, l1, l2, l3, l4] st σ) ∧
  (∀ (l0 l1 l2 l3 l4 : Option Value) (st : List Value) (σ : dS), den mX1_isCovered 34 [l0, l1, l2, l3, l4] st σ = den mX1_isCovered 35 [l0, l1, l2, l3, l4] (.int (nI 0) :: st) σ) ∧
  (∀ (l0 l1 l2 l3 l4 : Option Value) (v : Int32) (σ : dS), den mX1_isCovered 35 [l0, l1, l2, l3, l4] [.int v] σ = if v = 0 ∨ v = 1 then some (some (.int v), σ) else none) ∧
  (∀ (l0 l1 l4 : Option Value) (x : Int32) (y : Int32) (st : List Value) (σ : dS), den mX1_isCovered 36 [l0, l1, some (.int y), some (.int x), l4] st σ = den mX1_isCovered 39 [l0, l1, some (.int y), some (.int (x + nI 1)), l4] st σ) ∧
  (∀ (l0 l1 l2 l3 l4 : Option Value) (st : List Value) (σ : dS), den mX1_isCovered 39 [l0, l1, l2, l3, l4] st σ = den mX1_isCovered 2 [l0, l1, l2, l3, l4] st σ) ∧
  (∀ (l0 l1 l2 l3 l4 : Option Value) (st : List Value) (σ : dS), den mX1_isCovered 42 [l0, l1, l2, l3, l4] st σ = den mX1_isCovered 43 [l0, l1, l2, l3, l4] (.int (nI 1) :: st) σ) ∧
  (∀ (l0 l1 l2 l3 l4 : Option Value) (v : Int32) (σ : dS), den mX1_isCovered 43 [l0, l1, l2, l3, l4] [.int v] σ = if v = 0 ∨ v = 1 then some (some (.int v), σ) else none) :=
  ⟨fun l0 l1 l2 l3 l4 st σ => dn_iconst eX1_isCovered dX1_isCovered_0 kc_iconst_0,
  fun l0 l1 l3 l4 x y st σ => dn_istore_n eX1_isCovered dX1_isCovered_1 rfl,
  fun l1 l2 l3 l4 x st σ => dn_aload_n eX1_isCovered dX1_isCovered_3 rfl,
  fun l0 l1 l2 l3 l4 a0 b0 σ => dn_callS (e := (1, 11, 538)) (as := [.ref a0]) (rest := [.int b0]) eX1_isCovered dX1_isCovered_4 (by decide +kernel) (Or.inl rfl) (by decide +kernel) rfl (dcat_le rfl) (dlen_le rfl) rfl,
  fun l0 l1 l2 l3 l4 x y st σ => dn_icmp_ge eX1_isCovered dX1_isCovered_7 (by decide),
  fun l1 l2 l3 l4 x st σ => dn_aload_n eX1_isCovered dX1_isCovered_10 rfl,
  fun l0 l1 l2 l4 x st σ => dn_iload_n eX1_isCovered dX1_isCovered_11 rfl,
  fun l0 l1 l2 l3 l4 a0 a1 σ => dn_callS (e := (1, 12, 541)) (as := [.ref a0, .int a1]) (rest := []) eX1_isCovered dX1_isCovered_12 (by decide +kernel) (Or.inl rfl) (by decide +kernel) rfl (dcat_le rfl) (dlen_le rfl) rfl,
  fun l0 l1 l2 l4 x y st σ => dn_istore eX1_isCovered dX1_isCovered_15 rfl,
  fun l0 l1 l2 l3 x st σ => dn_iload eX1_isCovered dX1_isCovered_17 rfl,
  fun l0 l2 l3 l4 x st σ => dn_iload_n eX1_isCovered dX1_isCovered_19 rfl,
  fun l0 l1 l2 l3 l4 x y st σ => dn_ishr eX1_isCovered dX1_isCovered_20,
  fun l0 l1 l2 l3 l4 st σ => dn_iconst eX1_isCovered dX1_isCovered_21 kc_iconst_1,
  fun l0 l1 l2 l3 l4 x y st σ => dn_iand eX1_isCovered dX1_isCovered_22,
  fun l0 l1 l2 l3 l4 st σ => dn_iconst eX1_isCovered dX1_isCovered_23 kc_iconst_1,
  fun l0 l1 l2 l3 l4 x y st σ => dn_icmp_ne eX1_isCovered dX1_isCovered_24 (by decide),
  fun l0 l1 l2 l3 x st σ => dn_iload eX1_isCovered dX1_isCovered_27 rfl,
  fun l0 l1 l3 l4 x st σ => dn_iload_n eX1_isCovered dX1_isCovered_29 rfl,
  fun l0 l1 l2 l3 l4 x y st σ => dn_iand eX1_isCovered dX1_isCovered_30,
  fun l0 l1 l2 l3 l4 x st σ => dn_if_ne eX1_isCovered dX1_isCovered_31 (by decide),
  fun l0 l1 l2 l3 l4 st σ => dn_iconst eX1_isCovered dX1_isCovered_34 kc_iconst_0,
  fun l0 l1 l2 l3 l4 v σ => dn_zreturn eX1_isCovered dX1_isCovered_35 rfl,
  fun l0 l1 l4 x y st σ => dn_iinc (v := nI 1) eX1_isCovered dX1_isCovered_36 rfl kc_iconst_1 rfl,
  fun l0 l1 l2 l3 l4 st σ => dn_goto eX1_isCovered dX1_isCovered_39 (by decide),
  fun l0 l1 l2 l3 l4 st σ => dn_iconst eX1_isCovered dX1_isCovered_42 kc_iconst_1,
  fun l0 l1 l2 l3 l4 v σ => dn_zreturn eX1_isCovered dX1_isCovered_43 rfl⟩
theorem CX1_liveByWay (a0 : Nat) (a1 : Int32) (σ : dS) : dcall mX1_liveByWay [.ref a0, .int a1] σ = den mX1_liveByWay 0 [some (.ref a0), some (.int a1), none, none, none, none] [] σ := dcall_den (by decide) rfl
theorem hX1_liveByWay_15 (l0 l1 l2 l3 l5 : Option Value) (x : Int32) (st : List Value) (σ : dS) : den mX1_liveByWay 15 [l0, l1, l2, l3, some (.int x), l5] st σ = den mX1_liveByWay 17 [l0, l1, l2, l3, some (.int x), l5] (.int x :: st) σ := dn_iload eX1_liveByWay dX1_liveByWay_15 rfl
theorem rX1_liveByWay_84 (l0 l1 l2 l3 l4 l5 : Option Value) (a0 : Int32) (b0 : Int32) (q : Nat) (σ : dS) : den mX1_liveByWay 84 [l0, l1, l2, l3, l4, l5] [.int a0, .ref q, .int b0] σ = if disO σ q 2 = true then ((dcall mX3_readsOf [.ref q, .int a0] σ).bind fun r => den mX1_liveByWay 87 [l0, l1, l2, l3, l4, l5] (r.1.toList ++ [.int b0]) r.2) else none := by
  by_cases h : disO σ q 2 = true
  · rw [if_pos h]; exact dn_callV (e := (0, 15, 638)) (as := [.int a0]) (rest := [.int b0]) eX1_liveByWay dX1_liveByWay_84 (by decide +kernel) rfl (by decide +kernel) rfl (dcat_le rfl) (dlen_le rfl) rfl h
  · rw [if_neg h]; exact den_noV (e := (0, 15, 638)) (as := [.int a0]) (rest := [.int b0]) eX1_liveByWay dX1_liveByWay_84 (by decide +kernel) rfl rfl rfl h
set_option maxRecDepth 20000 in
theorem SX1_liveByWay_0 : (∀ (l0 l1 l2 l3 l4 l5 : Option Value) (st : List Value) (σ : dS), den mX1_liveByWay 0 [l0, l1, l2, l3, l4, l5] st σ = den mX1_liveByWay 1 [l0, l1, l2, l3, l4, l5] (.int (nI 0) :: st) σ) ∧
  (∀ (l0 l2 l3 l4 l5 : Option Value) (x : Int32) (y : Int32) (st : List Value) (σ : dS), den mX1_liveByWay 1 [l0, some (.int y), l2, l3, l4, l5] (.int x :: st) σ = den mX1_liveByWay 2 [l0, some (.int y), some (.int x), l3, l4, l5] st σ) ∧
  (∀ (l1 l2 l3 l4 l5 : Option Value) (x : Nat) (st : List Value) (σ : dS), den mX1_liveByWay 2 [some (.ref x), l1, l2, l3, l4, l5] st σ = den mX1_liveByWay 3 [some (.ref x), l1, l2, l3, l4, l5] (.ref x :: st) σ) ∧
  (∀ (l0 l1 l2 l3 l4 l5 : Option Value) (q : Nat) (st : List Value) (σ : dS), den mX1_liveByWay 3 [l0, l1, l2, l3, l4, l5] (.ref q :: st) σ = (dget σ q 2 9).bind fun v => den mX1_liveByWay 6 [l0, l1, l2, l3, l4, l5] (v :: st) σ) ∧
  (∀ (l0 l1 l3 l4 l5 : Option Value) (x : Int32) (y : Int32) (st : List Value) (σ : dS), den mX1_liveByWay 6 [l0, l1, some (.int y), l3, l4, l5] (.int x :: st) σ = den mX1_liveByWay 7 [l0, l1, some (.int y), some (.int x), l4, l5] st σ) ∧
  (∀ (l1 l2 l3 l4 l5 : Option Value) (x : Nat) (st : List Value) (σ : dS), den mX1_liveByWay 7 [some (.ref x), l1, l2, l3, l4, l5] st σ = den mX1_liveByWay 8 [some (.ref x), l1, l2, l3, l4, l5] (.ref x :: st) σ) ∧
  (∀ (l0 l1 l2 l3 l4 l5 : Option Value) (q : Nat) (st : List Value) (σ : dS), den mX1_liveByWay 8 [l0, l1, l2, l3, l4, l5] (.ref q :: st) σ = (dget σ q 2 7).bind fun v => den mX1_liveByWay 11 [l0, l1, l2, l3, l4, l5] (v :: st) σ) ∧
  (∀ (l0 l1 l2 l3 l4 l5 : Option Value) (st : List Value) (σ : dS), den mX1_liveByWay 11 [l0, l1, l2, l3, l4, l5] st σ = den mX1_liveByWay 12 [l0, l1, l2, l3, l4, l5] (.int (nI 1) :: st) σ) ∧
  (∀ (l0 l1 l2 l3 l4 l5 : Option Value) (x y : Int32) (st : List Value) (σ : dS), den mX1_liveByWay 12 [l0, l1, l2, l3, l4, l5] (.int y :: .int x :: st) σ = den mX1_liveByWay 13 [l0, l1, l2, l3, l4, l5] (.int (x - y) :: st) σ) ∧
  (∀ (l0 l1 l2 l4 l5 : Option Value) (x : Int32) (y : Int32) (st : List Value) (σ : dS), den mX1_liveByWay 13 [l0, l1, l2, some (.int y), l4, l5] (.int x :: st) σ = den mX1_liveByWay 15 [l0, l1, l2, some (.int y), some (.int x), l5] st σ) ∧
  (∀ (l0 l1 l2 l3 l4 l5 : Option Value) (x : Int32) (st : List Value) (σ : dS), den mX1_liveByWay 17 [l0, l1, l2, l3, l4, l5] (.int x :: st) σ = if x < 0 then den mX1_liveByWay 95 [l0, l1, l2, l3, l4, l5] st σ else den mX1_liveByWay 20 [l0, l1, l2, l3, l4, l5] st σ) ∧
  (∀ (l0 l2 l3 l4 l5 : Option Value) (x : Int32) (st : List Value) (σ : dS), den mX1_liveByWay 20 [l0, some (.int x), l2, l3, l4, l5] st σ = den mX1_liveByWay 21 [l0, some (.int x), l2, l3, l4, l5] (.int x :: st) σ) ∧
  (∀ (l1 l2 l3 l4 l5 : Option Value) (x : Nat) (st : List Value) (σ : dS), den mX1_liveByWay 21 [some (.ref x), l1, l2, l3, l4, l5] st σ = den mX1_liveByWay 22 [some (.ref x), l1, l2, l3, l4, l5] (.ref x :: st) σ) ∧
  (∀ (l0 l1 l2 l3 l4 l5 : Option Value) (q : Nat) (st : List Value) (σ : dS), den mX1_liveByWay 22 [l0, l1, l2, l3, l4, l5] (.ref q :: st) σ = (dget σ q 2 4).bind fun v => den mX1_liveByWay 25 [l0, l1, l2, l3, l4, l5] (v :: st) σ) ∧
  (∀ (l0 l1 l2 l3 l5 : Option Value) (x : Int32) (st : List Value) (σ : dS), den mX1_liveByWay 25 [l0, l1, l2, l3, some (.int x), l5] st σ = den mX1_liveByWay 27 [l0, l1, l2, l3, some (.int x), l5] (.int x :: st) σ) ∧
  (∀ (l0 l1 l2 l3 l4 l5 : Option Value) (q : Nat) (i : Int32) (st : List Value) (σ : dS), den mX1_liveByWay 27 [l0, l1, l2, l3, l4, l5] (.int i :: .ref q :: st) σ = if q ≤ dN then (dald σ q 0 i).bind (fun v => den mX1_liveByWay 28 [l0, l1, l2, l3, l4, l5] (.int v :: st) σ) else none) ∧
  (∀ (l0 l1 l2 l3 l4 l5 : Option Value) (x y : Int32) (st : List Value) (σ : dS), den mX1_liveByWay 28 [l0, l1, l2, l3, l4, l5] (.int y :: .int x :: st) σ = den mX1_liveByWay 29 [l0, l1, l2, l3, l4, l5] (.int (x >>> (y &&& 31)) :: st) σ) ∧
  (∀ (l0 l1 l2 l3 l4 l5 : Option Value) (st : List Value) (σ : dS), den mX1_liveByWay 29 [l0, l1, l2, l3, l4, l5] st σ = den mX1_liveByWay 30 [l0, l1, l2, l3, l4, l5] (.int (nI 1) :: st) σ) ∧
  (∀ (l0 l1 l2 l3 l4 l5 : Option Value) (x y : Int32) (st : List Value) (σ : dS), den mX1_liveByWay 30 [l0, l1, l2, l3, l4, l5] (.int y :: .int x :: st) σ = den mX1_liveByWay 31 [l0, l1, l2, l3, l4, l5] (.int (x &&& y) :: st) σ) ∧
  (∀ (l0 l1 l2 l3 l4 l5 : Option Value) (x : Int32) (st : List Value) (σ : dS), den mX1_liveByWay 31 [l0, l1, l2, l3, l4, l5] (.int x :: st) σ = if x = 0 then den mX1_liveByWay 34 [l0, l1, l2, l3, l4, l5] st σ else den mX1_liveByWay 37 [l0, l1, l2, l3, l4, l5] st σ) ∧
  (∀ (l0 l1 l2 l3 l4 l5 : Option Value) (st : List Value) (σ : dS), den mX1_liveByWay 34 [l0, l1, l2, l3, l4, l5] st σ = den mX1_liveByWay 89 [l0, l1, l2, l3, l4, l5] st σ) ∧
  (∀ (l1 l2 l3 l4 l5 : Option Value) (x : Nat) (st : List Value) (σ : dS), den mX1_liveByWay 37 [some (.ref x), l1, l2, l3, l4, l5] st σ = den mX1_liveByWay 38 [some (.ref x), l1, l2, l3, l4, l5] (.ref x :: st) σ) ∧
  (∀ (l0 l1 l2 l3 l4 l5 : Option Value) (q : Nat) (st : List Value) (σ : dS), den mX1_liveByWay 38 [l0, l1, l2, l3, l4, l5] (.ref q :: st) σ = (dget σ q 2 0).bind fun v => den mX1_liveByWay 41 [l0, l1, l2, l3, l4, l5] (v :: st) σ) ∧
  (∀ (l0 l1 l2 l3 l5 : Option Value) (x : Int32) (st : List Value) (σ : dS), den mX1_liveByWay 41 [l0, l1, l2, l3, some (.int x), l5] st σ = den mX1_liveByWay 43 [l0, l1, l2, l3, some (.int x), l5] (.int x :: st) σ) ∧
  (∀ (l0 l1 l2 l3 l4 l5 : Option Value) (q : Nat) (i : Int32) (st : List Value) (σ : dS), den mX1_liveByWay 43 [l0, l1, l2, l3, l4, l5] (.int i :: .ref q :: st) σ = if q ≤ dN then (dald σ q 0 i).bind (fun v => den mX1_liveByWay 44 [l0, l1, l2, l3, l4, l5] (.int v :: st) σ) else none) ∧
  (∀ (l0 l1 l2 l3 l4 l5 : Option Value) (st : List Value) (σ : dS), den mX1_liveByWay 44 [l0, l1, l2, l3, l4, l5] st σ = den mX1_liveByWay 45 [l0, l1, l2, l3, l4, l5] (.int (nI 5) :: st) σ) ∧
  (∀ (l0 l1 l2 l3 l4 l5 : Option Value) (x y : Int32) (st : List Value) (σ : dS), den mX1_liveByWay 45 [l0, l1, l2, l3, l4, l5] (.int y :: .int x :: st) σ = if x = y then den mX1_liveByWay 80 [l0, l1, l2, l3, l4, l5] st σ else den mX1_liveByWay 48 [l0, l1, l2, l3, l4, l5] st σ) ∧
  (∀ (l0 l1 l2 l3 l4 l5 : Option Value) (st : List Value) (σ : dS), den mX1_liveByWay 48 [l0, l1, l2, l3, l4, l5] st σ = den mX1_liveByWay 49 [l0, l1, l2, l3, l4, l5] (.int (nI 1) :: st) σ) ∧
  (∀ (l1 l2 l3 l4 l5 : Option Value) (x : Nat) (st : List Value) (σ : dS), den mX1_liveByWay 49 [some (.ref x), l1, l2, l3, l4, l5] st σ = den mX1_liveByWay 50 [some (.ref x), l1, l2, l3, l4, l5] (.ref x :: st) σ) ∧
  (∀ (l0 l1 l2 l3 l4 l5 : Option Value) (q : Nat) (st : List Value) (σ : dS), den mX1_liveByWay 50 [l0, l1, l2, l3, l4, l5] (.ref q :: st) σ = (dget σ q 2 1).bind fun v => den mX1_liveByWay 53 [l0, l1, l2, l3, l4, l5] (v :: st) σ) ∧
  (∀ (l0 l1 l2 l3 l5 : Option Value) (x : Int32) (st : List Value) (σ : dS), den mX1_liveByWay 53 [l0, l1, l2, l3, some (.int x), l5] st σ = den mX1_liveByWay 55 [l0, l1, l2, l3, some (.int x), l5] (.int x :: st) σ) ∧
  (∀ (l0 l1 l2 l3 l4 l5 : Option Value) (q : Nat) (i : Int32) (st : List Value) (σ : dS), den mX1_liveByWay 55 [l0, l1, l2, l3, l4, l5] (.int i :: .ref q :: st) σ = if q ≤ dN then (dald σ q 0 i).bind (fun v => den mX1_liveByWay 56 [l0, l1, l2, l3, l4, l5] (.int v :: st) σ) else none) ∧
  (∀ (l0 l1 l2 l3 l4 l5 : Option Value) (x y : Int32) (st : List Value) (σ : dS), den mX1_liveByWay 56 [l0, l1, l2, l3, l4, l5] (.int y :: .int x :: st) σ = den mX1_liveByWay 57 [l0, l1, l2, l3, l4, l5] (.int (x <<< (y &&& 31)) :: st) σ) ∧
  (∀ (l0 l1 l2 l3 l5 : Option Value) (x : Int32) (y : Int32) (st : List Value) (σ : dS), den mX1_liveByWay 57 [l0, l1, l2, l3, some (.int y), l5] (.int x :: st) σ = den mX1_liveByWay 59 [l0, l1, l2, l3, some (.int y), some (.int x)] st σ) ∧
  (∀ (l0 l1 l2 l4 l5 : Option Value) (x : Int32) (st : List Value) (σ : dS), den mX1_liveByWay 59 [l0, l1, l2, some (.int x), l4, l5] st σ = den mX1_liveByWay 60 [l0, l1, l2, some (.int x), l4, l5] (.int x :: st) σ) ∧
  (∀ (l0 l1 l2 l3 l4 : Option Value) (x : Int32) (st : List Value) (σ : dS), den mX1_liveByWay 60 [l0, l1, l2, l3, l4, some (.int x)] st σ = den mX1_liveByWay 62 [l0, l1, l2, l3, l4, some (.int x)] (.int x :: st) σ) ∧
  (∀ (l0 l1 l2 l3 l4 l5 : Option Value) (x y : Int32) (st : List Value) (σ : dS), den mX1_liveByWay 62 [l0, l1, l2, l3, l4, l5] (.int y :: .int x :: st) σ = den mX1_liveByWay 63 [l0, l1, l2, l3, l4, l5] (.int (x &&& y) :: st) σ) ∧
  (∀ (l0 l1 l2 l3 l4 l5 : Option Value) (x : Int32) (st : List Value) (σ : dS), den mX1_liveByWay 63 [l0, l1, l2, l3, l4, l5] (.int x :: st) σ = if x = 0 then den mX1_liveByWay 73 [l0, l1, l2, l3, l4, l5] st σ else den mX1_liveByWay 66 [l0, l1, l2, l3, l4, l5] st σ) ∧
  (∀ (l0 l1 l3 l4 l5 : Option Value) (x : Int32) (st : List Value) (σ : dS), den mX1_liveByWay 66 [l0, l1, some (.int x), l3, l4, l5] st σ = den mX1_liveByWay 67 [l0, l1, some (.int x), l3, l4, l5] (.int x :: st) σ) ∧
  (∀ (l0 l1 l2 l3 l4 l5 : Option Value) (st : List Value) (σ : dS), den mX1_liveByWay 67 [l0, l1, l2, l3, l4, l5] st σ = den mX1_liveByWay 68 [l0, l1, l2, l3, l4, l5] (.int (nI 1) :: st) σ) :=
  ⟨fun l0 l1 l2 l3 l4 l5 st σ => dn_iconst eX1_liveByWay dX1_liveByWay_0 kc_iconst_0,
  fun l0 l2 l3 l4 l5 x y st σ => dn_istore_n eX1_liveByWay dX1_liveByWay_1 rfl,
  fun l1 l2 l3 l4 l5 x st σ => dn_aload_n eX1_liveByWay dX1_liveByWay_2 rfl,
  fun l0 l1 l2 l3 l4 l5 q st σ => dn_getfield (f := (2, 9, 121)) eX1_liveByWay dX1_liveByWay_3 (by decide +kernel),
  fun l0 l1 l3 l4 l5 x y st σ => dn_istore_n eX1_liveByWay dX1_liveByWay_6 rfl,
  fun l1 l2 l3 l4 l5 x st σ => dn_aload_n eX1_liveByWay dX1_liveByWay_7 rfl,
  fun l0 l1 l2 l3 l4 l5 q st σ => dn_getfield (f := (2, 7, 113)) eX1_liveByWay dX1_liveByWay_8 (by decide +kernel),
  fun l0 l1 l2 l3 l4 l5 st σ => dn_iconst eX1_liveByWay dX1_liveByWay_11 kc_iconst_1,
  fun l0 l1 l2 l3 l4 l5 x y st σ => dn_isub eX1_liveByWay dX1_liveByWay_12,
  fun l0 l1 l2 l4 l5 x y st σ => dn_istore eX1_liveByWay dX1_liveByWay_13 rfl,
  fun l0 l1 l2 l3 l4 l5 x st σ => dn_if_lt eX1_liveByWay dX1_liveByWay_17 (by decide),
  fun l0 l2 l3 l4 l5 x st σ => dn_iload_n eX1_liveByWay dX1_liveByWay_20 rfl,
  fun l1 l2 l3 l4 l5 x st σ => dn_aload_n eX1_liveByWay dX1_liveByWay_21 rfl,
  fun l0 l1 l2 l3 l4 l5 q st σ => dn_getfield (f := (2, 4, 103)) eX1_liveByWay dX1_liveByWay_22 (by decide +kernel),
  fun l0 l1 l2 l3 l5 x st σ => dn_iload eX1_liveByWay dX1_liveByWay_25 rfl,
  fun l0 l1 l2 l3 l4 l5 q i st σ => dn_iaload eX1_liveByWay dX1_liveByWay_27,
  fun l0 l1 l2 l3 l4 l5 x y st σ => dn_ishr eX1_liveByWay dX1_liveByWay_28,
  fun l0 l1 l2 l3 l4 l5 st σ => dn_iconst eX1_liveByWay dX1_liveByWay_29 kc_iconst_1,
  fun l0 l1 l2 l3 l4 l5 x y st σ => dn_iand eX1_liveByWay dX1_liveByWay_30,
  fun l0 l1 l2 l3 l4 l5 x st σ => dn_if_ne eX1_liveByWay dX1_liveByWay_31 (by decide),
  fun l0 l1 l2 l3 l4 l5 st σ => dn_goto eX1_liveByWay dX1_liveByWay_34 (by decide),
  fun l1 l2 l3 l4 l5 x st σ => dn_aload_n eX1_liveByWay dX1_liveByWay_37 rfl,
  fun l0 l1 l2 l3 l4 l5 q st σ => dn_getfield (f := (2, 0, 87)) eX1_liveByWay dX1_liveByWay_38 (by decide +kernel),
  fun l0 l1 l2 l3 l5 x st σ => dn_iload eX1_liveByWay dX1_liveByWay_41 rfl,
  fun l0 l1 l2 l3 l4 l5 q i st σ => dn_iaload eX1_liveByWay dX1_liveByWay_43,
  fun l0 l1 l2 l3 l4 l5 st σ => dn_iconst eX1_liveByWay dX1_liveByWay_44 kc_iconst_5,
  fun l0 l1 l2 l3 l4 l5 x y st σ => dn_icmp_eq eX1_liveByWay dX1_liveByWay_45 (by decide),
  fun l0 l1 l2 l3 l4 l5 st σ => dn_iconst eX1_liveByWay dX1_liveByWay_48 kc_iconst_1,
  fun l1 l2 l3 l4 l5 x st σ => dn_aload_n eX1_liveByWay dX1_liveByWay_49 rfl,
  fun l0 l1 l2 l3 l4 l5 q st σ => dn_getfield (f := (2, 1, 91)) eX1_liveByWay dX1_liveByWay_50 (by decide +kernel),
  fun l0 l1 l2 l3 l5 x st σ => dn_iload eX1_liveByWay dX1_liveByWay_53 rfl,
  fun l0 l1 l2 l3 l4 l5 q i st σ => dn_iaload eX1_liveByWay dX1_liveByWay_55,
  fun l0 l1 l2 l3 l4 l5 x y st σ => dn_ishl eX1_liveByWay dX1_liveByWay_56,
  fun l0 l1 l2 l3 l5 x y st σ => dn_istore eX1_liveByWay dX1_liveByWay_57 rfl,
  fun l0 l1 l2 l4 l5 x st σ => dn_iload_n eX1_liveByWay dX1_liveByWay_59 rfl,
  fun l0 l1 l2 l3 l4 x st σ => dn_iload eX1_liveByWay dX1_liveByWay_60 rfl,
  fun l0 l1 l2 l3 l4 l5 x y st σ => dn_iand eX1_liveByWay dX1_liveByWay_62,
  fun l0 l1 l2 l3 l4 l5 x st σ => dn_if_eq eX1_liveByWay dX1_liveByWay_63 (by decide),
  fun l0 l1 l3 l4 l5 x st σ => dn_iload_n eX1_liveByWay dX1_liveByWay_66 rfl,
  fun l0 l1 l2 l3 l4 l5 st σ => dn_iconst eX1_liveByWay dX1_liveByWay_67 kc_iconst_1⟩
set_option maxRecDepth 20000 in
theorem SX1_liveByWay_1 : (∀ (l0 l1 l2 l3 l5 : Option Value) (x : Int32) (st : List Value) (σ : dS), den mX1_liveByWay 68 [l0, l1, l2, l3, some (.int x), l5] st σ = den mX1_liveByWay 70 [l0, l1, l2, l3, some (.int x), l5] (.int x :: st) σ) ∧
  (∀ (l0 l1 l2 l3 l4 l5 : Option Value) (x y : Int32) (st : List Value) (σ : dS), den mX1_liveByWay 70 [l0, l1, l2, l3, l4, l5] (.int y :: .int x :: st) σ = den mX1_liveByWay 71 [l0, l1, l2, l3, l4, l5] (.int (x <<< (y &&& 31)) :: st) σ) ∧
  (∀ (l0 l1 l2 l3 l4 l5 : Option Value) (x y : Int32) (st : List Value) (σ : dS), den mX1_liveByWay 71 [l0, l1, l2, l3, l4, l5] (.int y :: .int x :: st) σ = den mX1_liveByWay 72 [l0, l1, l2, l3, l4, l5] (.int (x ||| y) :: st) σ) ∧
  (∀ (l0 l2 l3 l4 l5 : Option Value) (x : Int32) (y : Int32) (st : List Value) (σ : dS), den mX1_liveByWay 72 [l0, some (.int y), l2, l3, l4, l5] (.int x :: st) σ = den mX1_liveByWay 73 [l0, some (.int y), some (.int x), l3, l4, l5] st σ) ∧
  (∀ (l0 l1 l2 l4 l5 : Option Value) (x : Int32) (st : List Value) (σ : dS), den mX1_liveByWay 73 [l0, l1, l2, some (.int x), l4, l5] st σ = den mX1_liveByWay 74 [l0, l1, l2, some (.int x), l4, l5] (.int x :: st) σ) ∧
  (∀ (l0 l1 l2 l3 l4 : Option Value) (x : Int32) (st : List Value) (σ : dS), den mX1_liveByWay 74 [l0, l1, l2, l3, l4, some (.int x)] st σ = den mX1_liveByWay 76 [l0, l1, l2, l3, l4, some (.int x)] (.int x :: st) σ) ∧
  (∀ (l0 l1 l2 l3 l4 l5 : Option Value) (st : List Value) (σ : dS), den mX1_liveByWay 76 [l0, l1, l2, l3, l4, l5] st σ = den mX1_liveByWay 77 [l0, l1, l2, l3, l4, l5] (.int ((-1)) :: st) σ) ∧
  (∀ (l0 l1 l2 l3 l4 l5 : Option Value) (x y : Int32) (st : List Value) (σ : dS), den mX1_liveByWay 77 [l0, l1, l2, l3, l4, l5] (.int y :: .int x :: st) σ = den mX1_liveByWay 78 [l0, l1, l2, l3, l4, l5] (.int (x ^^^ y) :: st) σ) ∧
  (∀ (l0 l1 l2 l3 l4 l5 : Option Value) (x y : Int32) (st : List Value) (σ : dS), den mX1_liveByWay 78 [l0, l1, l2, l3, l4, l5] (.int y :: .int x :: st) σ = den mX1_liveByWay 79 [l0, l1, l2, l3, l4, l5] (.int (x &&& y) :: st) σ) ∧
  (∀ (l0 l1 l3 l4 l5 : Option Value) (x : Int32) (y : Int32) (st : List Value) (σ : dS), den mX1_liveByWay 79 [l0, l1, some (.int y), l3, l4, l5] (.int x :: st) σ = den mX1_liveByWay 80 [l0, l1, some (.int y), some (.int x), l4, l5] st σ) ∧
  (∀ (l0 l1 l2 l4 l5 : Option Value) (x : Int32) (st : List Value) (σ : dS), den mX1_liveByWay 80 [l0, l1, l2, some (.int x), l4, l5] st σ = den mX1_liveByWay 81 [l0, l1, l2, some (.int x), l4, l5] (.int x :: st) σ) ∧
  (∀ (l1 l2 l3 l4 l5 : Option Value) (x : Nat) (st : List Value) (σ : dS), den mX1_liveByWay 81 [some (.ref x), l1, l2, l3, l4, l5] st σ = den mX1_liveByWay 82 [some (.ref x), l1, l2, l3, l4, l5] (.ref x :: st) σ) ∧
  (∀ (l0 l1 l2 l3 l5 : Option Value) (x : Int32) (st : List Value) (σ : dS), den mX1_liveByWay 82 [l0, l1, l2, l3, some (.int x), l5] st σ = den mX1_liveByWay 84 [l0, l1, l2, l3, some (.int x), l5] (.int x :: st) σ) ∧
  (∀ (l0 l1 l2 l3 l4 l5 : Option Value) (a0 : Int32) (b0 : Int32) (q : Nat) (σ : dS), den mX1_liveByWay 84 [l0, l1, l2, l3, l4, l5] [.int a0, .ref q, .int b0] σ = if disO σ q 2 = true then ((dcall mX3_readsOf [.ref q, .int a0] σ).bind fun r => den mX1_liveByWay 87 [l0, l1, l2, l3, l4, l5] (r.1.toList ++ [.int b0]) r.2) else none) ∧
  (∀ (l0 l1 l2 l3 l4 l5 : Option Value) (x y : Int32) (st : List Value) (σ : dS), den mX1_liveByWay 87 [l0, l1, l2, l3, l4, l5] (.int y :: .int x :: st) σ = den mX1_liveByWay 88 [l0, l1, l2, l3, l4, l5] (.int (x ||| y) :: st) σ) ∧
  (∀ (l0 l1 l3 l4 l5 : Option Value) (x : Int32) (y : Int32) (st : List Value) (σ : dS), den mX1_liveByWay 88 [l0, l1, some (.int y), l3, l4, l5] (.int x :: st) σ = den mX1_liveByWay 89 [l0, l1, some (.int y), some (.int x), l4, l5] st σ) ∧
  (∀ (l0 l1 l2 l5 : Option Value) (x : Int32) (y : Int32) (st : List Value) (σ : dS), den mX1_liveByWay 89 [l0, l1, l2, some (.int y), some (.int x), l5] st σ = den mX1_liveByWay 92 [l0, l1, l2, some (.int y), some (.int (x + (-1))), l5] st σ) ∧
  (∀ (l0 l1 l2 l3 l4 l5 : Option Value) (st : List Value) (σ : dS), den mX1_liveByWay 92 [l0, l1, l2, l3, l4, l5] st σ = den mX1_liveByWay 15 [l0, l1, l2, l3, l4, l5] st σ) ∧
  (∀ (l0 l1 l3 l4 l5 : Option Value) (x : Int32) (st : List Value) (σ : dS), den mX1_liveByWay 95 [l0, l1, some (.int x), l3, l4, l5] st σ = den mX1_liveByWay 96 [l0, l1, some (.int x), l3, l4, l5] (.int x :: st) σ) ∧
  (∀ (l0 l1 l2 l3 l4 l5 : Option Value) (v : Int32) (σ : dS), den mX1_liveByWay 96 [l0, l1, l2, l3, l4, l5] [.int v] σ = some (some (.int v), σ)) :=
  ⟨fun l0 l1 l2 l3 l5 x st σ => dn_iload eX1_liveByWay dX1_liveByWay_68 rfl,
  fun l0 l1 l2 l3 l4 l5 x y st σ => dn_ishl eX1_liveByWay dX1_liveByWay_70,
  fun l0 l1 l2 l3 l4 l5 x y st σ => dn_ior eX1_liveByWay dX1_liveByWay_71,
  fun l0 l2 l3 l4 l5 x y st σ => dn_istore_n eX1_liveByWay dX1_liveByWay_72 rfl,
  fun l0 l1 l2 l4 l5 x st σ => dn_iload_n eX1_liveByWay dX1_liveByWay_73 rfl,
  fun l0 l1 l2 l3 l4 x st σ => dn_iload eX1_liveByWay dX1_liveByWay_74 rfl,
  fun l0 l1 l2 l3 l4 l5 st σ => dn_iconst eX1_liveByWay dX1_liveByWay_76 kc_iconst_m1,
  fun l0 l1 l2 l3 l4 l5 x y st σ => dn_ixor eX1_liveByWay dX1_liveByWay_77,
  fun l0 l1 l2 l3 l4 l5 x y st σ => dn_iand eX1_liveByWay dX1_liveByWay_78,
  fun l0 l1 l3 l4 l5 x y st σ => dn_istore_n eX1_liveByWay dX1_liveByWay_79 rfl,
  fun l0 l1 l2 l4 l5 x st σ => dn_iload_n eX1_liveByWay dX1_liveByWay_80 rfl,
  fun l1 l2 l3 l4 l5 x st σ => dn_aload_n eX1_liveByWay dX1_liveByWay_81 rfl,
  fun l0 l1 l2 l3 l5 x st σ => dn_iload eX1_liveByWay dX1_liveByWay_82 rfl,
  fun l0 l1 l2 l3 l4 l5 a0 b0 q σ => rX1_liveByWay_84 l0 l1 l2 l3 l4 l5 a0 b0 q σ,
  fun l0 l1 l2 l3 l4 l5 x y st σ => dn_ior eX1_liveByWay dX1_liveByWay_87,
  fun l0 l1 l3 l4 l5 x y st σ => dn_istore_n eX1_liveByWay dX1_liveByWay_88 rfl,
  fun l0 l1 l2 l5 x y st σ => dn_iinc (v := (-1)) eX1_liveByWay dX1_liveByWay_89 rfl kc_iconst_m1 rfl,
  fun l0 l1 l2 l3 l4 l5 st σ => dn_goto eX1_liveByWay dX1_liveByWay_92 (by decide),
  fun l0 l1 l3 l4 l5 x st σ => dn_iload_n eX1_liveByWay dX1_liveByWay_95 rfl,
  fun l0 l1 l2 l3 l4 l5 v σ => dn_ireturn eX1_liveByWay dX1_liveByWay_96 rfl⟩
theorem CX1_liveOnes (a0 : Nat) (σ : dS) : dcall mX1_liveOnes [.ref a0] σ = den mX1_liveOnes 0 [some (.ref a0), none, none] [] σ := dcall_den (by decide) rfl
theorem hX1_liveOnes_4 (l0 l1 : Option Value) (x : Int32) (st : List Value) (σ : dS) : den mX1_liveOnes 4 [l0, l1, some (.int x)] st σ = den mX1_liveOnes 5 [l0, l1, some (.int x)] (.int x :: st) σ := dn_iload_n eX1_liveOnes dX1_liveOnes_4 rfl
set_option maxRecDepth 20000 in
theorem SX1_liveOnes : (∀ (l0 l1 l2 : Option Value) (st : List Value) (σ : dS), den mX1_liveOnes 0 [l0, l1, l2] st σ = den mX1_liveOnes 1 [l0, l1, l2] (.int (nI 0) :: st) σ) ∧
  (∀ (l1 l2 : Option Value) (x : Int32) (y : Nat) (st : List Value) (σ : dS), den mX1_liveOnes 1 [some (.ref y), l1, l2] (.int x :: st) σ = den mX1_liveOnes 2 [some (.ref y), some (.int x), l2] st σ) ∧
  (∀ (l0 l1 l2 : Option Value) (st : List Value) (σ : dS), den mX1_liveOnes 2 [l0, l1, l2] st σ = den mX1_liveOnes 3 [l0, l1, l2] (.int (nI 0) :: st) σ) ∧
  (∀ (l0 l2 : Option Value) (x : Int32) (y : Int32) (st : List Value) (σ : dS), den mX1_liveOnes 3 [l0, some (.int y), l2] (.int x :: st) σ = den mX1_liveOnes 4 [l0, some (.int y), some (.int x)] st σ) ∧
  (∀ (l1 l2 : Option Value) (x : Nat) (st : List Value) (σ : dS), den mX1_liveOnes 5 [some (.ref x), l1, l2] st σ = den mX1_liveOnes 6 [some (.ref x), l1, l2] (.ref x :: st) σ) ∧
  (∀ (l0 l1 l2 : Option Value) (a0 : Nat) (b0 : Int32) (σ : dS), den mX1_liveOnes 6 [l0, l1, l2] [.ref a0, .int b0] σ = (dcall mX1_howManyWays [.ref a0] σ).bind fun r => den mX1_liveOnes 9 [l0, l1, l2] (r.1.toList ++ [.int b0]) r.2) ∧
  (∀ (l0 l1 l2 : Option Value) (x y : Int32) (st : List Value) (σ : dS), den mX1_liveOnes 9 [l0, l1, l2] (.int y :: .int x :: st) σ = if x < y then den mX1_liveOnes 12 [l0, l1, l2] st σ else den mX1_liveOnes 30 [l0, l1, l2] st σ) ∧
  (∀ (l0 l2 : Option Value) (x : Int32) (st : List Value) (σ : dS), den mX1_liveOnes 12 [l0, some (.int x), l2] st σ = den mX1_liveOnes 13 [l0, some (.int x), l2] (.int x :: st) σ) ∧
  (∀ (l1 l2 : Option Value) (x : Nat) (st : List Value) (σ : dS), den mX1_liveOnes 13 [some (.ref x), l1, l2] st σ = den mX1_liveOnes 14 [some (.ref x), l1, l2] (.ref x :: st) σ) ∧
  (∀ (l1 l2 : Option Value) (x : Nat) (st : List Value) (σ : dS), den mX1_liveOnes 14 [some (.ref x), l1, l2] st σ = den mX1_liveOnes 15 [some (.ref x), l1, l2] (.ref x :: st) σ) ∧
  (∀ (l0 l1 : Option Value) (x : Int32) (st : List Value) (σ : dS), den mX1_liveOnes 15 [l0, l1, some (.int x)] st σ = den mX1_liveOnes 16 [l0, l1, some (.int x)] (.int x :: st) σ) ∧
  (∀ (l0 l1 l2 : Option Value) (a0 : Nat) (a1 : Int32) (b0 : Nat) (b1 : Int32) (σ : dS), den mX1_liveOnes 16 [l0, l1, l2] [.int a1, .ref a0, .ref b0, .int b1] σ = (dcall mX1_holding [.ref a0, .int a1] σ).bind fun r => den mX1_liveOnes 19 [l0, l1, l2] (r.1.toList ++ [.ref b0, .int b1]) r.2) ∧
  (∀ (l0 l1 l2 : Option Value) (a0 : Nat) (a1 : Int32) (b0 : Int32) (σ : dS), den mX1_liveOnes 19 [l0, l1, l2] [.int a1, .ref a0, .int b0] σ = (dcall mX1_liveByWay [.ref a0, .int a1] σ).bind fun r => den mX1_liveOnes 22 [l0, l1, l2] (r.1.toList ++ [.int b0]) r.2) ∧
  (∀ (l0 l1 l2 : Option Value) (x y : Int32) (st : List Value) (σ : dS), den mX1_liveOnes 22 [l0, l1, l2] (.int y :: .int x :: st) σ = den mX1_liveOnes 23 [l0, l1, l2] (.int (x ||| y) :: st) σ) ∧
  (∀ (l1 l2 : Option Value) (x : Int32) (y : Nat) (st : List Value) (σ : dS), den mX1_liveOnes 23 [some (.ref y), l1, l2] (.int x :: st) σ = den mX1_liveOnes 24 [some (.ref y), some (.int x), l2] st σ) ∧
  (∀ (l0 : Option Value) (x : Int32) (y : Int32) (st : List Value) (σ : dS), den mX1_liveOnes 24 [l0, some (.int y), some (.int x)] st σ = den mX1_liveOnes 27 [l0, some (.int y), some (.int (x + nI 1))] st σ) ∧
  (∀ (l0 l1 l2 : Option Value) (st : List Value) (σ : dS), den mX1_liveOnes 27 [l0, l1, l2] st σ = den mX1_liveOnes 4 [l0, l1, l2] st σ) ∧
  (∀ (l0 l2 : Option Value) (x : Int32) (st : List Value) (σ : dS), den mX1_liveOnes 30 [l0, some (.int x), l2] st σ = den mX1_liveOnes 31 [l0, some (.int x), l2] (.int x :: st) σ) ∧
  (∀ (l0 l1 l2 : Option Value) (v : Int32) (σ : dS), den mX1_liveOnes 31 [l0, l1, l2] [.int v] σ = some (some (.int v), σ)) :=
  ⟨fun l0 l1 l2 st σ => dn_iconst eX1_liveOnes dX1_liveOnes_0 kc_iconst_0,
  fun l1 l2 x y st σ => dn_istore_n eX1_liveOnes dX1_liveOnes_1 rfl,
  fun l0 l1 l2 st σ => dn_iconst eX1_liveOnes dX1_liveOnes_2 kc_iconst_0,
  fun l0 l2 x y st σ => dn_istore_n eX1_liveOnes dX1_liveOnes_3 rfl,
  fun l1 l2 x st σ => dn_aload_n eX1_liveOnes dX1_liveOnes_5 rfl,
  fun l0 l1 l2 a0 b0 σ => dn_callS (e := (1, 11, 538)) (as := [.ref a0]) (rest := [.int b0]) eX1_liveOnes dX1_liveOnes_6 (by decide +kernel) (Or.inl rfl) (by decide +kernel) rfl (dcat_le rfl) (dlen_le rfl) rfl,
  fun l0 l1 l2 x y st σ => dn_icmp_ge eX1_liveOnes dX1_liveOnes_9 (by decide),
  fun l0 l2 x st σ => dn_iload_n eX1_liveOnes dX1_liveOnes_12 rfl,
  fun l1 l2 x st σ => dn_aload_n eX1_liveOnes dX1_liveOnes_13 rfl,
  fun l1 l2 x st σ => dn_aload_n eX1_liveOnes dX1_liveOnes_14 rfl,
  fun l0 l1 x st σ => dn_iload_n eX1_liveOnes dX1_liveOnes_15 rfl,
  fun l0 l1 l2 a0 a1 b0 b1 σ => dn_callS (e := (1, 12, 541)) (as := [.ref a0, .int a1]) (rest := [.ref b0, .int b1]) eX1_liveOnes dX1_liveOnes_16 (by decide +kernel) (Or.inl rfl) (by decide +kernel) rfl (dcat_le rfl) (dlen_le rfl) rfl,
  fun l0 l1 l2 a0 a1 b0 σ => dn_callS (e := (1, 16, 635)) (as := [.ref a0, .int a1]) (rest := [.int b0]) eX1_liveOnes dX1_liveOnes_19 (by decide +kernel) (Or.inl rfl) (by decide +kernel) rfl (dcat_le rfl) (dlen_le rfl) rfl,
  fun l0 l1 l2 x y st σ => dn_ior eX1_liveOnes dX1_liveOnes_22,
  fun l1 l2 x y st σ => dn_istore_n eX1_liveOnes dX1_liveOnes_23 rfl,
  fun l0 x y st σ => dn_iinc (v := nI 1) eX1_liveOnes dX1_liveOnes_24 rfl kc_iconst_1 rfl,
  fun l0 l1 l2 st σ => dn_goto eX1_liveOnes dX1_liveOnes_27 (by decide),
  fun l0 l2 x st σ => dn_iload_n eX1_liveOnes dX1_liveOnes_30 rfl,
  fun l0 l1 l2 v σ => dn_ireturn eX1_liveOnes dX1_liveOnes_31 rfl⟩
theorem CX2_begin (a0 : Nat) (a1 : Int32) (a2 : Int32) (a3 : Int32) (a4 : Int32) (σ : dS) : dcall mX2_begin [.ref a0, .int a1, .int a2, .int a3, .int a4] σ = den mX2_begin 0 [some (.ref a0), some (.int a1), some (.int a2), some (.int a3), some (.int a4)] [] σ := dcall_den (by decide) rfl
set_option maxRecDepth 20000 in
theorem SX2_begin : (∀ (l1 l2 l3 l4 : Option Value) (x : Nat) (st : List Value) (σ : dS), den mX2_begin 0 [some (.ref x), l1, l2, l3, l4] st σ = den mX2_begin 1 [some (.ref x), l1, l2, l3, l4] (.ref x :: st) σ) ∧
  (∀ (l0 l1 l2 l3 l4 : Option Value) (q : Nat) (st : List Value) (σ : dS), den mX2_begin 1 [l0, l1, l2, l3, l4] (.ref q :: st) σ = (dget σ q 1 0).bind fun v => den mX2_begin 4 [l0, l1, l2, l3, l4] (v :: st) σ) ∧
  (∀ (l0 l1 l2 l3 l4 : Option Value) (st : List Value) (σ : dS), den mX2_begin 4 [l0, l1, l2, l3, l4] st σ = den mX2_begin 5 [l0, l1, l2, l3, l4] (.int (nI 0) :: st) σ) ∧
  (∀ (l0 l1 l2 l3 l4 : Option Value) (a0 : Nat) (a1 : Int32) (σ : dS), den mX2_begin 5 [l0, l1, l2, l3, l4] [.int a1, .ref a0] σ = (dcall mJ7_fill_53178 [.ref a0, .int a1] σ).bind fun r => den mX2_begin 8 [l0, l1, l2, l3, l4] (r.1.toList ++ []) r.2) ∧
  (∀ (l1 l2 l3 l4 : Option Value) (x : Nat) (st : List Value) (σ : dS), den mX2_begin 8 [some (.ref x), l1, l2, l3, l4] st σ = den mX2_begin 9 [some (.ref x), l1, l2, l3, l4] (.ref x :: st) σ) ∧
  (∀ (l0 l1 l2 l3 l4 : Option Value) (q : Nat) (st : List Value) (σ : dS), den mX2_begin 9 [l0, l1, l2, l3, l4] (.ref q :: st) σ = (dget σ q 1 0).bind fun v => den mX2_begin 12 [l0, l1, l2, l3, l4] (v :: st) σ) ∧
  (∀ (l0 l1 l2 l3 l4 : Option Value) (st : List Value) (σ : dS), den mX2_begin 12 [l0, l1, l2, l3, l4] st σ = den mX2_begin 13 [l0, l1, l2, l3, l4] (.int (nI 0) :: st) σ) ∧
  (∀ (l0 l2 l3 l4 : Option Value) (x : Int32) (st : List Value) (σ : dS), den mX2_begin 13 [l0, some (.int x), l2, l3, l4] st σ = den mX2_begin 14 [l0, some (.int x), l2, l3, l4] (.int x :: st) σ) ∧
  (∀ (l0 l1 l2 l3 l4 : Option Value) (q : Nat) (i x : Int32) (st : List Value) (σ : dS), den mX2_begin 14 [l0, l1, l2, l3, l4] (.int x :: .int i :: .ref q :: st) σ = (dast σ q 0 i x).bind fun τ => den mX2_begin 15 [l0, l1, l2, l3, l4] st τ) ∧
  (∀ (l1 l2 l3 l4 : Option Value) (x : Nat) (st : List Value) (σ : dS), den mX2_begin 15 [some (.ref x), l1, l2, l3, l4] st σ = den mX2_begin 16 [some (.ref x), l1, l2, l3, l4] (.ref x :: st) σ) ∧
  (∀ (l0 l1 l2 l3 l4 : Option Value) (q : Nat) (st : List Value) (σ : dS), den mX2_begin 16 [l0, l1, l2, l3, l4] (.ref q :: st) σ = (dget σ q 1 0).bind fun v => den mX2_begin 19 [l0, l1, l2, l3, l4] (v :: st) σ) ∧
  (∀ (l0 l1 l2 l3 l4 : Option Value) (st : List Value) (σ : dS), den mX2_begin 19 [l0, l1, l2, l3, l4] st σ = den mX2_begin 20 [l0, l1, l2, l3, l4] (.int (nI 1) :: st) σ) ∧
  (∀ (l0 l1 l3 l4 : Option Value) (x : Int32) (st : List Value) (σ : dS), den mX2_begin 20 [l0, l1, some (.int x), l3, l4] st σ = den mX2_begin 21 [l0, l1, some (.int x), l3, l4] (.int x :: st) σ) ∧
  (∀ (l0 l1 l2 l3 l4 : Option Value) (q : Nat) (i x : Int32) (st : List Value) (σ : dS), den mX2_begin 21 [l0, l1, l2, l3, l4] (.int x :: .int i :: .ref q :: st) σ = (dast σ q 0 i x).bind fun τ => den mX2_begin 22 [l0, l1, l2, l3, l4] st τ) ∧
  (∀ (l1 l2 l3 l4 : Option Value) (x : Nat) (st : List Value) (σ : dS), den mX2_begin 22 [some (.ref x), l1, l2, l3, l4] st σ = den mX2_begin 23 [some (.ref x), l1, l2, l3, l4] (.ref x :: st) σ) ∧
  (∀ (l0 l1 l2 l3 l4 : Option Value) (q : Nat) (st : List Value) (σ : dS), den mX2_begin 23 [l0, l1, l2, l3, l4] (.ref q :: st) σ = (dget σ q 1 0).bind fun v => den mX2_begin 26 [l0, l1, l2, l3, l4] (v :: st) σ) ∧
  (∀ (l0 l1 l2 l3 l4 : Option Value) (st : List Value) (σ : dS), den mX2_begin 26 [l0, l1, l2, l3, l4] st σ = den mX2_begin 27 [l0, l1, l2, l3, l4] (.int (nI 2) :: st) σ) ∧
  (∀ (l0 l1 l2 l4 : Option Value) (x : Int32) (st : List Value) (σ : dS), den mX2_begin 27 [l0, l1, l2, some (.int x), l4] st σ = den mX2_begin 28 [l0, l1, l2, some (.int x), l4] (.int x :: st) σ) ∧
  (∀ (l0 l1 l2 l3 l4 : Option Value) (q : Nat) (i x : Int32) (st : List Value) (σ : dS), den mX2_begin 28 [l0, l1, l2, l3, l4] (.int x :: .int i :: .ref q :: st) σ = (dast σ q 0 i x).bind fun τ => den mX2_begin 29 [l0, l1, l2, l3, l4] st τ) ∧
  (∀ (l1 l2 l3 l4 : Option Value) (x : Nat) (st : List Value) (σ : dS), den mX2_begin 29 [some (.ref x), l1, l2, l3, l4] st σ = den mX2_begin 30 [some (.ref x), l1, l2, l3, l4] (.ref x :: st) σ) ∧
  (∀ (l0 l1 l2 l3 l4 : Option Value) (q : Nat) (st : List Value) (σ : dS), den mX2_begin 30 [l0, l1, l2, l3, l4] (.ref q :: st) σ = (dget σ q 1 0).bind fun v => den mX2_begin 33 [l0, l1, l2, l3, l4] (v :: st) σ) ∧
  (∀ (l0 l1 l2 l3 l4 : Option Value) (st : List Value) (σ : dS), den mX2_begin 33 [l0, l1, l2, l3, l4] st σ = den mX2_begin 34 [l0, l1, l2, l3, l4] (.int (nI 3) :: st) σ) ∧
  (∀ (l0 l1 l2 l3 : Option Value) (x : Int32) (st : List Value) (σ : dS), den mX2_begin 34 [l0, l1, l2, l3, some (.int x)] st σ = den mX2_begin 36 [l0, l1, l2, l3, some (.int x)] (.int x :: st) σ) ∧
  (∀ (l0 l1 l2 l3 l4 : Option Value) (q : Nat) (i x : Int32) (st : List Value) (σ : dS), den mX2_begin 36 [l0, l1, l2, l3, l4] (.int x :: .int i :: .ref q :: st) σ = (dast σ q 0 i x).bind fun τ => den mX2_begin 37 [l0, l1, l2, l3, l4] st τ) ∧
  (∀ (l0 l1 l2 l3 l4 : Option Value) (σ : dS), den mX2_begin 37 [l0, l1, l2, l3, l4] [] σ = some (none, σ)) :=
  ⟨fun l1 l2 l3 l4 x st σ => dn_aload_n eX2_begin dX2_begin_0 rfl,
  fun l0 l1 l2 l3 l4 q st σ => dn_getfield (f := (1, 0, 217)) eX2_begin dX2_begin_1 (by decide +kernel),
  fun l0 l1 l2 l3 l4 st σ => dn_iconst eX2_begin dX2_begin_4 kc_iconst_0,
  fun l0 l1 l2 l3 l4 a0 a1 σ => dn_callS (e := (1, 2, 561)) (as := [.ref a0, .int a1]) (rest := []) eX2_begin dX2_begin_5 (by decide +kernel) (Or.inl rfl) (by decide +kernel) rfl (dcat_le rfl) (dlen_le rfl) rfl,
  fun l1 l2 l3 l4 x st σ => dn_aload_n eX2_begin dX2_begin_8 rfl,
  fun l0 l1 l2 l3 l4 q st σ => dn_getfield (f := (1, 0, 217)) eX2_begin dX2_begin_9 (by decide +kernel),
  fun l0 l1 l2 l3 l4 st σ => dn_iconst eX2_begin dX2_begin_12 kc_iconst_0,
  fun l0 l2 l3 l4 x st σ => dn_iload_n eX2_begin dX2_begin_13 rfl,
  fun l0 l1 l2 l3 l4 q i x st σ => dn_iastore eX2_begin dX2_begin_14,
  fun l1 l2 l3 l4 x st σ => dn_aload_n eX2_begin dX2_begin_15 rfl,
  fun l0 l1 l2 l3 l4 q st σ => dn_getfield (f := (1, 0, 217)) eX2_begin dX2_begin_16 (by decide +kernel),
  fun l0 l1 l2 l3 l4 st σ => dn_iconst eX2_begin dX2_begin_19 kc_iconst_1,
  fun l0 l1 l3 l4 x st σ => dn_iload_n eX2_begin dX2_begin_20 rfl,
  fun l0 l1 l2 l3 l4 q i x st σ => dn_iastore eX2_begin dX2_begin_21,
  fun l1 l2 l3 l4 x st σ => dn_aload_n eX2_begin dX2_begin_22 rfl,
  fun l0 l1 l2 l3 l4 q st σ => dn_getfield (f := (1, 0, 217)) eX2_begin dX2_begin_23 (by decide +kernel),
  fun l0 l1 l2 l3 l4 st σ => dn_iconst eX2_begin dX2_begin_26 kc_iconst_2,
  fun l0 l1 l2 l4 x st σ => dn_iload_n eX2_begin dX2_begin_27 rfl,
  fun l0 l1 l2 l3 l4 q i x st σ => dn_iastore eX2_begin dX2_begin_28,
  fun l1 l2 l3 l4 x st σ => dn_aload_n eX2_begin dX2_begin_29 rfl,
  fun l0 l1 l2 l3 l4 q st σ => dn_getfield (f := (1, 0, 217)) eX2_begin dX2_begin_30 (by decide +kernel),
  fun l0 l1 l2 l3 l4 st σ => dn_iconst eX2_begin dX2_begin_33 kc_iconst_3,
  fun l0 l1 l2 l3 x st σ => dn_iload eX2_begin dX2_begin_34 rfl,
  fun l0 l1 l2 l3 l4 q i x st σ => dn_iastore eX2_begin dX2_begin_36,
  fun l0 l1 l2 l3 l4 σ => dn_return eX2_begin dX2_begin_37 rfl⟩
theorem CX2_beginBySeed (a0 : Nat) (a1 : Int32) (σ : dS) : dcall mX2_beginBySeed [.ref a0, .int a1] σ = den mX2_beginBySeed 0 [some (.ref a0), some (.int a1), none, none] [] σ := dcall_den (by decide) rfl
theorem hX2_beginBySeed_12 (l0 l1 l2 : Option Value) (x : Int32) (st : List Value) (σ : dS) : den mX2_beginBySeed 12 [l0, l1, l2, some (.int x)] st σ = den mX2_beginBySeed 13 [l0, l1, l2, some (.int x)] (.int x :: st) σ := dn_iload_n eX2_beginBySeed dX2_beginBySeed_12 rfl
set_option maxRecDepth 20000 in
theorem SX2_beginBySeed : (∀ (l0 l2 l3 : Option Value) (x : Int32) (st : List Value) (σ : dS), den mX2_beginBySeed 0 [l0, some (.int x), l2, l3] st σ = den mX2_beginBySeed 1 [l0, some (.int x), l2, l3] (.int x :: st) σ) ∧
  (∀ (l0 l2 l3 : Option Value) (x : Int32) (y : Int32) (st : List Value) (σ : dS), den mX2_beginBySeed 1 [l0, some (.int y), l2, l3] (.int x :: st) σ = den mX2_beginBySeed 2 [l0, some (.int y), some (.int x), l3] st σ) ∧
  (∀ (l1 l2 l3 : Option Value) (x : Nat) (st : List Value) (σ : dS), den mX2_beginBySeed 2 [some (.ref x), l1, l2, l3] st σ = den mX2_beginBySeed 3 [some (.ref x), l1, l2, l3] (.ref x :: st) σ) ∧
  (∀ (l0 l1 l2 l3 : Option Value) (q : Nat) (st : List Value) (σ : dS), den mX2_beginBySeed 3 [l0, l1, l2, l3] (.ref q :: st) σ = (dget σ q 1 0).bind fun v => den mX2_beginBySeed 6 [l0, l1, l2, l3] (v :: st) σ) ∧
  (∀ (l0 l1 l2 l3 : Option Value) (st : List Value) (σ : dS), den mX2_beginBySeed 6 [l0, l1, l2, l3] st σ = den mX2_beginBySeed 7 [l0, l1, l2, l3] (.int (nI 0) :: st) σ) ∧
  (∀ (l0 l1 l2 l3 : Option Value) (a0 : Nat) (a1 : Int32) (σ : dS), den mX2_beginBySeed 7 [l0, l1, l2, l3] [.int a1, .ref a0] σ = (dcall mJ7_fill_53178 [.ref a0, .int a1] σ).bind fun r => den mX2_beginBySeed 10 [l0, l1, l2, l3] (r.1.toList ++ []) r.2) ∧
  (∀ (l0 l1 l2 l3 : Option Value) (st : List Value) (σ : dS), den mX2_beginBySeed 10 [l0, l1, l2, l3] st σ = den mX2_beginBySeed 11 [l0, l1, l2, l3] (.int (nI 0) :: st) σ) ∧
  (∀ (l0 l1 l3 : Option Value) (x : Int32) (y : Int32) (st : List Value) (σ : dS), den mX2_beginBySeed 11 [l0, l1, some (.int y), l3] (.int x :: st) σ = den mX2_beginBySeed 12 [l0, l1, some (.int y), some (.int x)] st σ) ∧
  (∀ (l0 l1 l2 l3 : Option Value) (st : List Value) (σ : dS), den mX2_beginBySeed 13 [l0, l1, l2, l3] st σ = den mX2_beginBySeed 14 [l0, l1, l2, l3] (.int (nI 4) :: st) σ) ∧
  (∀ (l0 l1 l2 l3 : Option Value) (x y : Int32) (st : List Value) (σ : dS), den mX2_beginBySeed 14 [l0, l1, l2, l3] (.int y :: .int x :: st) σ = if x < y then den mX2_beginBySeed 17 [l0, l1, l2, l3] st σ else den mX2_beginBySeed 51 [l0, l1, l2, l3] st σ) ∧
  (∀ (l0 l1 l3 : Option Value) (x : Int32) (st : List Value) (σ : dS), den mX2_beginBySeed 17 [l0, l1, some (.int x), l3] st σ = den mX2_beginBySeed 18 [l0, l1, some (.int x), l3] (.int x :: st) σ) ∧
  (∀ (l0 l1 l2 l3 : Option Value) (st : List Value) (σ : dS), den mX2_beginBySeed 18 [l0, l1, l2, l3] st σ = den mX2_beginBySeed 20 [l0, l1, l2, l3] (.int 1103515245 :: st) σ) ∧
  (∀ (l0 l1 l2 l3 : Option Value) (x y : Int32) (st : List Value) (σ : dS), den mX2_beginBySeed 20 [l0, l1, l2, l3] (.int y :: .int x :: st) σ = den mX2_beginBySeed 21 [l0, l1, l2, l3] (.int (x * y) :: st) σ) ∧
  (∀ (l0 l1 l2 l3 : Option Value) (st : List Value) (σ : dS), den mX2_beginBySeed 21 [l0, l1, l2, l3] st σ = den mX2_beginBySeed 24 [l0, l1, l2, l3] (.int (nI 12345) :: st) σ) ∧
  (∀ (l0 l1 l2 l3 : Option Value) (x y : Int32) (st : List Value) (σ : dS), den mX2_beginBySeed 24 [l0, l1, l2, l3] (.int y :: .int x :: st) σ = den mX2_beginBySeed 25 [l0, l1, l2, l3] (.int (x + y) :: st) σ) ∧
  (∀ (l0 l2 l3 : Option Value) (x : Int32) (y : Int32) (st : List Value) (σ : dS), den mX2_beginBySeed 25 [l0, some (.int y), l2, l3] (.int x :: st) σ = den mX2_beginBySeed 26 [l0, some (.int y), some (.int x), l3] st σ) ∧
  (∀ (l1 l2 l3 : Option Value) (x : Nat) (st : List Value) (σ : dS), den mX2_beginBySeed 26 [some (.ref x), l1, l2, l3] st σ = den mX2_beginBySeed 27 [some (.ref x), l1, l2, l3] (.ref x :: st) σ) ∧
  (∀ (l0 l1 l2 l3 : Option Value) (q : Nat) (st : List Value) (σ : dS), den mX2_beginBySeed 27 [l0, l1, l2, l3] (.ref q :: st) σ = (dget σ q 1 0).bind fun v => den mX2_beginBySeed 30 [l0, l1, l2, l3] (v :: st) σ) ∧
  (∀ (l0 l1 l2 : Option Value) (x : Int32) (st : List Value) (σ : dS), den mX2_beginBySeed 30 [l0, l1, l2, some (.int x)] st σ = den mX2_beginBySeed 31 [l0, l1, l2, some (.int x)] (.int x :: st) σ) ∧
  (∀ (l0 l1 l3 : Option Value) (x : Int32) (st : List Value) (σ : dS), den mX2_beginBySeed 31 [l0, l1, some (.int x), l3] st σ = den mX2_beginBySeed 32 [l0, l1, some (.int x), l3] (.int x :: st) σ) ∧
  (∀ (l0 l1 l2 l3 : Option Value) (st : List Value) (σ : dS), den mX2_beginBySeed 32 [l0, l1, l2, l3] st σ = den mX2_beginBySeed 34 [l0, l1, l2, l3] (.int (nI 16) :: st) σ) ∧
  (∀ (l0 l1 l2 l3 : Option Value) (x y : Int32) (st : List Value) (σ : dS), den mX2_beginBySeed 34 [l0, l1, l2, l3] (.int y :: .int x :: st) σ = den mX2_beginBySeed 35 [l0, l1, l2, l3] (.int (x >>> (y &&& 31)) :: st) σ) ∧
  (∀ (l0 l1 l2 l3 : Option Value) (st : List Value) (σ : dS), den mX2_beginBySeed 35 [l0, l1, l2, l3] st σ = den mX2_beginBySeed 38 [l0, l1, l2, l3] (.int (nI 32767) :: st) σ) ∧
  (∀ (l0 l1 l2 l3 : Option Value) (x y : Int32) (st : List Value) (σ : dS), den mX2_beginBySeed 38 [l0, l1, l2, l3] (.int y :: .int x :: st) σ = den mX2_beginBySeed 39 [l0, l1, l2, l3] (.int (x &&& y) :: st) σ) ∧
  (∀ (l0 l1 l2 l3 : Option Value) (st : List Value) (σ : dS), den mX2_beginBySeed 39 [l0, l1, l2, l3] st σ = den mX2_beginBySeed 41 [l0, l1, l2, l3] (.int (nI 9) :: st) σ) ∧
  (∀ (l0 l1 l2 l3 : Option Value) (x y : Int32) (st : List Value) (σ : dS), den mX2_beginBySeed 41 [l0, l1, l2, l3] (.int y :: .int x :: st) σ = if y = 0 then none else den mX2_beginBySeed 42 [l0, l1, l2, l3] (.int (x - x / y * y) :: st) σ) ∧
  (∀ (l0 l1 l2 l3 : Option Value) (st : List Value) (σ : dS), den mX2_beginBySeed 42 [l0, l1, l2, l3] st σ = den mX2_beginBySeed 43 [l0, l1, l2, l3] (.int (nI 4) :: st) σ) ∧
  (∀ (l0 l1 l2 l3 : Option Value) (x y : Int32) (st : List Value) (σ : dS), den mX2_beginBySeed 43 [l0, l1, l2, l3] (.int y :: .int x :: st) σ = den mX2_beginBySeed 44 [l0, l1, l2, l3] (.int (x - y) :: st) σ) ∧
  (∀ (l0 l1 l2 l3 : Option Value) (q : Nat) (i x : Int32) (st : List Value) (σ : dS), den mX2_beginBySeed 44 [l0, l1, l2, l3] (.int x :: .int i :: .ref q :: st) σ = (dast σ q 0 i x).bind fun τ => den mX2_beginBySeed 45 [l0, l1, l2, l3] st τ) ∧
  (∀ (l0 l1 : Option Value) (x : Int32) (y : Int32) (st : List Value) (σ : dS), den mX2_beginBySeed 45 [l0, l1, some (.int y), some (.int x)] st σ = den mX2_beginBySeed 48 [l0, l1, some (.int y), some (.int (x + nI 1))] st σ) ∧
  (∀ (l0 l1 l2 l3 : Option Value) (st : List Value) (σ : dS), den mX2_beginBySeed 48 [l0, l1, l2, l3] st σ = den mX2_beginBySeed 12 [l0, l1, l2, l3] st σ) ∧
  (∀ (l0 l1 l3 : Option Value) (x : Int32) (st : List Value) (σ : dS), den mX2_beginBySeed 51 [l0, l1, some (.int x), l3] st σ = den mX2_beginBySeed 52 [l0, l1, some (.int x), l3] (.int x :: st) σ) ∧
  (∀ (l0 l1 l2 l3 : Option Value) (v : Int32) (σ : dS), den mX2_beginBySeed 52 [l0, l1, l2, l3] [.int v] σ = some (some (.int v), σ)) :=
  ⟨fun l0 l2 l3 x st σ => dn_iload_n eX2_beginBySeed dX2_beginBySeed_0 rfl,
  fun l0 l2 l3 x y st σ => dn_istore_n eX2_beginBySeed dX2_beginBySeed_1 rfl,
  fun l1 l2 l3 x st σ => dn_aload_n eX2_beginBySeed dX2_beginBySeed_2 rfl,
  fun l0 l1 l2 l3 q st σ => dn_getfield (f := (1, 0, 217)) eX2_beginBySeed dX2_beginBySeed_3 (by decide +kernel),
  fun l0 l1 l2 l3 st σ => dn_iconst eX2_beginBySeed dX2_beginBySeed_6 kc_iconst_0,
  fun l0 l1 l2 l3 a0 a1 σ => dn_callS (e := (1, 2, 561)) (as := [.ref a0, .int a1]) (rest := []) eX2_beginBySeed dX2_beginBySeed_7 (by decide +kernel) (Or.inl rfl) (by decide +kernel) rfl (dcat_le rfl) (dlen_le rfl) rfl,
  fun l0 l1 l2 l3 st σ => dn_iconst eX2_beginBySeed dX2_beginBySeed_10 kc_iconst_0,
  fun l0 l1 l3 x y st σ => dn_istore_n eX2_beginBySeed dX2_beginBySeed_11 rfl,
  fun l0 l1 l2 l3 st σ => dn_iconst eX2_beginBySeed dX2_beginBySeed_13 kc_iconst_4,
  fun l0 l1 l2 l3 x y st σ => dn_icmp_ge eX2_beginBySeed dX2_beginBySeed_14 (by decide),
  fun l0 l1 l3 x st σ => dn_iload_n eX2_beginBySeed dX2_beginBySeed_17 rfl,
  fun l0 l1 l2 l3 st σ => dn_ldc (v := (1103515245, 593)) eX2_beginBySeed dX2_beginBySeed_18 (by decide +kernel),
  fun l0 l1 l2 l3 x y st σ => dn_imul eX2_beginBySeed dX2_beginBySeed_20,
  fun l0 l1 l2 l3 st σ => dn_sipush eX2_beginBySeed dX2_beginBySeed_21 kc_sipush_12345,
  fun l0 l1 l2 l3 x y st σ => dn_iadd eX2_beginBySeed dX2_beginBySeed_24,
  fun l0 l2 l3 x y st σ => dn_istore_n eX2_beginBySeed dX2_beginBySeed_25 rfl,
  fun l1 l2 l3 x st σ => dn_aload_n eX2_beginBySeed dX2_beginBySeed_26 rfl,
  fun l0 l1 l2 l3 q st σ => dn_getfield (f := (1, 0, 217)) eX2_beginBySeed dX2_beginBySeed_27 (by decide +kernel),
  fun l0 l1 l2 x st σ => dn_iload_n eX2_beginBySeed dX2_beginBySeed_30 rfl,
  fun l0 l1 l3 x st σ => dn_iload_n eX2_beginBySeed dX2_beginBySeed_31 rfl,
  fun l0 l1 l2 l3 st σ => dn_bipush eX2_beginBySeed dX2_beginBySeed_32 kc_bipush_16,
  fun l0 l1 l2 l3 x y st σ => dn_ishr eX2_beginBySeed dX2_beginBySeed_34,
  fun l0 l1 l2 l3 st σ => dn_sipush eX2_beginBySeed dX2_beginBySeed_35 kc_sipush_32767,
  fun l0 l1 l2 l3 x y st σ => dn_iand eX2_beginBySeed dX2_beginBySeed_38,
  fun l0 l1 l2 l3 st σ => dn_bipush eX2_beginBySeed dX2_beginBySeed_39 kc_bipush_9,
  fun l0 l1 l2 l3 x y st σ => dn_irem eX2_beginBySeed dX2_beginBySeed_41,
  fun l0 l1 l2 l3 st σ => dn_iconst eX2_beginBySeed dX2_beginBySeed_42 kc_iconst_4,
  fun l0 l1 l2 l3 x y st σ => dn_isub eX2_beginBySeed dX2_beginBySeed_43,
  fun l0 l1 l2 l3 q i x st σ => dn_iastore eX2_beginBySeed dX2_beginBySeed_44,
  fun l0 l1 x y st σ => dn_iinc (v := nI 1) eX2_beginBySeed dX2_beginBySeed_45 rfl kc_iconst_1 rfl,
  fun l0 l1 l2 l3 st σ => dn_goto eX2_beginBySeed dX2_beginBySeed_48 (by decide),
  fun l0 l1 l3 x st σ => dn_iload_n eX2_beginBySeed dX2_beginBySeed_51 rfl,
  fun l0 l1 l2 l3 v σ => dn_ireturn eX2_beginBySeed dX2_beginBySeed_52 rfl⟩
theorem CX2_computed (a0 : Int32) (a1 : Int32) (a2 : Int32) (σ : dS) : dcall mX2_computed [.int a0, .int a1, .int a2] σ = den mX2_computed 0 [some (.int a0), some (.int a1), some (.int a2)] [] σ := dcall_den (by decide) rfl
theorem rX2_computed_1 (l0 l1 l2 : Option Value) (x : Int32) (st : List Value) (σ : dS) : den mX2_computed 1 [l0, l1, l2] (.int x :: st) σ = if x = nI 1 then den mX2_computed 28 [l0, l1, l2] st σ else if x = nI 2 then den mX2_computed 32 [l0, l1, l2] st σ else if x = nI 3 then den mX2_computed 36 [l0, l1, l2] st σ else den mX2_computed 40 [l0, l1, l2] st σ := by
  by_cases h0 : x = nI 1
  · rw [if_pos h0, h0]; exact dn_swIn (off := 27) eX2_computed dX2_computed_1 (by decide +kernel) (by decide +kernel) (by decide)
  rw [if_neg h0]
  by_cases h1 : x = nI 2
  · rw [if_pos h1, h1]; exact dn_swIn (off := 31) eX2_computed dX2_computed_1 (by decide +kernel) (by decide +kernel) (by decide)
  rw [if_neg h1]
  by_cases h2 : x = nI 3
  · rw [if_pos h2, h2]; exact dn_swIn (off := 35) eX2_computed dX2_computed_1 (by decide +kernel) (by decide +kernel) (by decide)
  rw [if_neg h2]
  refine dn_swOut eX2_computed dX2_computed_1 (by decide) ?_
  have g : x.toInt ≠ 1 ∧ x.toInt ≠ 2 ∧ x.toInt ≠ 3 := ⟨sw_ne h0, sw_ne h1, sw_ne h2⟩
  omega
set_option maxRecDepth 20000 in
theorem SX2_computed : (∀ (l1 l2 : Option Value) (x : Int32) (st : List Value) (σ : dS), den mX2_computed 0 [some (.int x), l1, l2] st σ = den mX2_computed 1 [some (.int x), l1, l2] (.int x :: st) σ) ∧
  (∀ (l0 l1 l2 : Option Value) (x : Int32) (st : List Value) (σ : dS), den mX2_computed 1 [l0, l1, l2] (.int x :: st) σ = if x = nI 1 then den mX2_computed 28 [l0, l1, l2] st σ else if x = nI 2 then den mX2_computed 32 [l0, l1, l2] st σ else if x = nI 3 then den mX2_computed 36 [l0, l1, l2] st σ else den mX2_computed 40 [l0, l1, l2] st σ) ∧
  (∀ (l0 l2 : Option Value) (x : Int32) (st : List Value) (σ : dS), den mX2_computed 28 [l0, some (.int x), l2] st σ = den mX2_computed 29 [l0, some (.int x), l2] (.int x :: st) σ) ∧
  (∀ (l0 l1 : Option Value) (x : Int32) (st : List Value) (σ : dS), den mX2_computed 29 [l0, l1, some (.int x)] st σ = den mX2_computed 30 [l0, l1, some (.int x)] (.int x :: st) σ) ∧
  (∀ (l0 l1 l2 : Option Value) (x y : Int32) (st : List Value) (σ : dS), den mX2_computed 30 [l0, l1, l2] (.int y :: .int x :: st) σ = den mX2_computed 31 [l0, l1, l2] (.int (x + y) :: st) σ) ∧
  (∀ (l0 l1 l2 : Option Value) (v : Int32) (σ : dS), den mX2_computed 31 [l0, l1, l2] [.int v] σ = some (some (.int v), σ)) ∧
  (∀ (l0 l2 : Option Value) (x : Int32) (st : List Value) (σ : dS), den mX2_computed 32 [l0, some (.int x), l2] st σ = den mX2_computed 33 [l0, some (.int x), l2] (.int x :: st) σ) ∧
  (∀ (l0 l1 : Option Value) (x : Int32) (st : List Value) (σ : dS), den mX2_computed 33 [l0, l1, some (.int x)] st σ = den mX2_computed 34 [l0, l1, some (.int x)] (.int x :: st) σ) ∧
  (∀ (l0 l1 l2 : Option Value) (x y : Int32) (st : List Value) (σ : dS), den mX2_computed 34 [l0, l1, l2] (.int y :: .int x :: st) σ = den mX2_computed 35 [l0, l1, l2] (.int (x - y) :: st) σ) ∧
  (∀ (l0 l1 l2 : Option Value) (v : Int32) (σ : dS), den mX2_computed 35 [l0, l1, l2] [.int v] σ = some (some (.int v), σ)) ∧
  (∀ (l0 l2 : Option Value) (x : Int32) (st : List Value) (σ : dS), den mX2_computed 36 [l0, some (.int x), l2] st σ = den mX2_computed 37 [l0, some (.int x), l2] (.int x :: st) σ) ∧
  (∀ (l0 l1 : Option Value) (x : Int32) (st : List Value) (σ : dS), den mX2_computed 37 [l0, l1, some (.int x)] st σ = den mX2_computed 38 [l0, l1, some (.int x)] (.int x :: st) σ) ∧
  (∀ (l0 l1 l2 : Option Value) (x y : Int32) (st : List Value) (σ : dS), den mX2_computed 38 [l0, l1, l2] (.int y :: .int x :: st) σ = den mX2_computed 39 [l0, l1, l2] (.int (x * y) :: st) σ) ∧
  (∀ (l0 l1 l2 : Option Value) (v : Int32) (σ : dS), den mX2_computed 39 [l0, l1, l2] [.int v] σ = some (some (.int v), σ)) ∧
  (∀ (l0 l1 : Option Value) (x : Int32) (st : List Value) (σ : dS), den mX2_computed 40 [l0, l1, some (.int x)] st σ = den mX2_computed 41 [l0, l1, some (.int x)] (.int x :: st) σ) ∧
  (∀ (l0 l1 l2 : Option Value) (x : Int32) (st : List Value) (σ : dS), den mX2_computed 41 [l0, l1, l2] (.int x :: st) σ = if x = 0 then den mX2_computed 44 [l0, l1, l2] st σ else den mX2_computed 48 [l0, l1, l2] st σ) ∧
  (∀ (l0 l1 l2 : Option Value) (st : List Value) (σ : dS), den mX2_computed 44 [l0, l1, l2] st σ = den mX2_computed 45 [l0, l1, l2] (.int (nI 0) :: st) σ) ∧
  (∀ (l0 l1 l2 : Option Value) (st : List Value) (σ : dS), den mX2_computed 45 [l0, l1, l2] st σ = den mX2_computed 51 [l0, l1, l2] st σ) ∧
  (∀ (l0 l2 : Option Value) (x : Int32) (st : List Value) (σ : dS), den mX2_computed 48 [l0, some (.int x), l2] st σ = den mX2_computed 49 [l0, some (.int x), l2] (.int x :: st) σ) ∧
  (∀ (l0 l1 : Option Value) (x : Int32) (st : List Value) (σ : dS), den mX2_computed 49 [l0, l1, some (.int x)] st σ = den mX2_computed 50 [l0, l1, some (.int x)] (.int x :: st) σ) ∧
  (∀ (l0 l1 l2 : Option Value) (x y : Int32) (st : List Value) (σ : dS), den mX2_computed 50 [l0, l1, l2] (.int y :: .int x :: st) σ = if y = 0 then none else den mX2_computed 51 [l0, l1, l2] (.int (x / y) :: st) σ) ∧
  (∀ (l0 l1 l2 : Option Value) (v : Int32) (σ : dS), den mX2_computed 51 [l0, l1, l2] [.int v] σ = some (some (.int v), σ)) :=
  ⟨fun l1 l2 x st σ => dn_iload_n eX2_computed dX2_computed_0 rfl,
  fun l0 l1 l2 x st σ => rX2_computed_1 l0 l1 l2 x st σ,
  fun l0 l2 x st σ => dn_iload_n eX2_computed dX2_computed_28 rfl,
  fun l0 l1 x st σ => dn_iload_n eX2_computed dX2_computed_29 rfl,
  fun l0 l1 l2 x y st σ => dn_iadd eX2_computed dX2_computed_30,
  fun l0 l1 l2 v σ => dn_ireturn eX2_computed dX2_computed_31 rfl,
  fun l0 l2 x st σ => dn_iload_n eX2_computed dX2_computed_32 rfl,
  fun l0 l1 x st σ => dn_iload_n eX2_computed dX2_computed_33 rfl,
  fun l0 l1 l2 x y st σ => dn_isub eX2_computed dX2_computed_34,
  fun l0 l1 l2 v σ => dn_ireturn eX2_computed dX2_computed_35 rfl,
  fun l0 l2 x st σ => dn_iload_n eX2_computed dX2_computed_36 rfl,
  fun l0 l1 x st σ => dn_iload_n eX2_computed dX2_computed_37 rfl,
  fun l0 l1 l2 x y st σ => dn_imul eX2_computed dX2_computed_38,
  fun l0 l1 l2 v σ => dn_ireturn eX2_computed dX2_computed_39 rfl,
  fun l0 l1 x st σ => dn_iload_n eX2_computed dX2_computed_40 rfl,
  fun l0 l1 l2 x st σ => dn_if_ne eX2_computed dX2_computed_41 (by decide),
  fun l0 l1 l2 st σ => dn_iconst eX2_computed dX2_computed_44 kc_iconst_0,
  fun l0 l1 l2 st σ => dn_goto eX2_computed dX2_computed_45 (by decide),
  fun l0 l2 x st σ => dn_iload_n eX2_computed dX2_computed_48 rfl,
  fun l0 l1 x st σ => dn_iload_n eX2_computed dX2_computed_49 rfl,
  fun l0 l1 l2 x y st σ => dn_idiv eX2_computed dX2_computed_50,
  fun l0 l1 l2 v σ => dn_ireturn eX2_computed dX2_computed_51 rfl⟩
theorem CX2_doOne (a0 : Nat) (a1 : Nat) (a2 : Int32) (σ : dS) : dcall mX2_doOne [.ref a0, .ref a1, .int a2] σ = den mX2_doOne 0 [some (.ref a0), some (.ref a1), some (.int a2), none, none, none] [] σ := dcall_den (by decide) rfl
set_option maxRecDepth 20000 in
theorem SX2_doOne_0 : (∀ (l0 l2 l3 l4 l5 : Option Value) (x : Nat) (st : List Value) (σ : dS), den mX2_doOne 0 [l0, some (.ref x), l2, l3, l4, l5] st σ = den mX2_doOne 1 [l0, some (.ref x), l2, l3, l4, l5] (.ref x :: st) σ) ∧
  (∀ (l0 l1 l2 l3 l4 l5 : Option Value) (q : Nat) (st : List Value) (σ : dS), den mX2_doOne 1 [l0, l1, l2, l3, l4, l5] (.ref q :: st) σ = (dget σ q 2 0).bind fun v => den mX2_doOne 4 [l0, l1, l2, l3, l4, l5] (v :: st) σ) ∧
  (∀ (l0 l1 l3 l4 l5 : Option Value) (x : Int32) (st : List Value) (σ : dS), den mX2_doOne 4 [l0, l1, some (.int x), l3, l4, l5] st σ = den mX2_doOne 5 [l0, l1, some (.int x), l3, l4, l5] (.int x :: st) σ) ∧
  (∀ (l0 l1 l2 l3 l4 l5 : Option Value) (q : Nat) (i : Int32) (st : List Value) (σ : dS), den mX2_doOne 5 [l0, l1, l2, l3, l4, l5] (.int i :: .ref q :: st) σ = if q ≤ dN then (dald σ q 0 i).bind (fun v => den mX2_doOne 6 [l0, l1, l2, l3, l4, l5] (.int v :: st) σ) else none) ∧
  (∀ (l0 l1 l3 l4 l5 : Option Value) (x : Int32) (y : Int32) (st : List Value) (σ : dS), den mX2_doOne 6 [l0, l1, some (.int y), l3, l4, l5] (.int x :: st) σ = den mX2_doOne 7 [l0, l1, some (.int y), some (.int x), l4, l5] st σ) ∧
  (∀ (l0 l1 l2 l4 l5 : Option Value) (x : Int32) (st : List Value) (σ : dS), den mX2_doOne 7 [l0, l1, l2, some (.int x), l4, l5] st σ = den mX2_doOne 8 [l0, l1, l2, some (.int x), l4, l5] (.int x :: st) σ) ∧
  (∀ (l0 l1 l2 l3 l4 l5 : Option Value) (x : Int32) (st : List Value) (σ : dS), den mX2_doOne 8 [l0, l1, l2, l3, l4, l5] (.int x :: st) σ = if x = 0 then den mX2_doOne 11 [l0, l1, l2, l3, l4, l5] st σ else den mX2_doOne 39 [l0, l1, l2, l3, l4, l5] st σ) ∧
  (∀ (l1 l2 l3 l4 l5 : Option Value) (x : Nat) (st : List Value) (σ : dS), den mX2_doOne 11 [some (.ref x), l1, l2, l3, l4, l5] st σ = den mX2_doOne 12 [some (.ref x), l1, l2, l3, l4, l5] (.ref x :: st) σ) ∧
  (∀ (l0 l1 l2 l3 l4 l5 : Option Value) (q : Nat) (st : List Value) (σ : dS), den mX2_doOne 12 [l0, l1, l2, l3, l4, l5] (.ref q :: st) σ = (dget σ q 1 0).bind fun v => den mX2_doOne 15 [l0, l1, l2, l3, l4, l5] (v :: st) σ) ∧
  (∀ (l0 l2 l3 l4 l5 : Option Value) (x : Nat) (st : List Value) (σ : dS), den mX2_doOne 15 [l0, some (.ref x), l2, l3, l4, l5] st σ = den mX2_doOne 16 [l0, some (.ref x), l2, l3, l4, l5] (.ref x :: st) σ) ∧
  (∀ (l0 l1 l2 l3 l4 l5 : Option Value) (q : Nat) (st : List Value) (σ : dS), den mX2_doOne 16 [l0, l1, l2, l3, l4, l5] (.ref q :: st) σ = (dget σ q 2 1).bind fun v => den mX2_doOne 19 [l0, l1, l2, l3, l4, l5] (v :: st) σ) ∧
  (∀ (l0 l1 l3 l4 l5 : Option Value) (x : Int32) (st : List Value) (σ : dS), den mX2_doOne 19 [l0, l1, some (.int x), l3, l4, l5] st σ = den mX2_doOne 20 [l0, l1, some (.int x), l3, l4, l5] (.int x :: st) σ) ∧
  (∀ (l0 l1 l2 l3 l4 l5 : Option Value) (q : Nat) (i : Int32) (st : List Value) (σ : dS), den mX2_doOne 20 [l0, l1, l2, l3, l4, l5] (.int i :: .ref q :: st) σ = if q ≤ dN then (dald σ q 0 i).bind (fun v => den mX2_doOne 21 [l0, l1, l2, l3, l4, l5] (.int v :: st) σ) else none) ∧
  (∀ (l0 l2 l3 l4 l5 : Option Value) (x : Nat) (st : List Value) (σ : dS), den mX2_doOne 21 [l0, some (.ref x), l2, l3, l4, l5] st σ = den mX2_doOne 22 [l0, some (.ref x), l2, l3, l4, l5] (.ref x :: st) σ) ∧
  (∀ (l0 l1 l2 l3 l4 l5 : Option Value) (q : Nat) (st : List Value) (σ : dS), den mX2_doOne 22 [l0, l1, l2, l3, l4, l5] (.ref q :: st) σ = (dget σ q 2 2).bind fun v => den mX2_doOne 25 [l0, l1, l2, l3, l4, l5] (v :: st) σ) ∧
  (∀ (l0 l1 l3 l4 l5 : Option Value) (x : Int32) (st : List Value) (σ : dS), den mX2_doOne 25 [l0, l1, some (.int x), l3, l4, l5] st σ = den mX2_doOne 26 [l0, l1, some (.int x), l3, l4, l5] (.int x :: st) σ) ∧
  (∀ (l0 l1 l2 l3 l4 l5 : Option Value) (q : Nat) (i : Int32) (st : List Value) (σ : dS), den mX2_doOne 26 [l0, l1, l2, l3, l4, l5] (.int i :: .ref q :: st) σ = if q ≤ dN then (dald σ q 0 i).bind (fun v => den mX2_doOne 27 [l0, l1, l2, l3, l4, l5] (.int v :: st) σ) else none) ∧
  (∀ (l0 l1 l2 l3 l4 l5 : Option Value) (q : Nat) (i x : Int32) (st : List Value) (σ : dS), den mX2_doOne 27 [l0, l1, l2, l3, l4, l5] (.int x :: .int i :: .ref q :: st) σ = (dast σ q 0 i x).bind fun τ => den mX2_doOne 28 [l0, l1, l2, l3, l4, l5] st τ) ∧
  (∀ (l1 l2 l3 l4 l5 : Option Value) (x : Nat) (st : List Value) (σ : dS), den mX2_doOne 28 [some (.ref x), l1, l2, l3, l4, l5] st σ = den mX2_doOne 29 [some (.ref x), l1, l2, l3, l4, l5] (.ref x :: st) σ) ∧
  (∀ (l0 l1 l2 l3 l4 l5 : Option Value) (x : Nat) (st : List Value) (σ : dS), den mX2_doOne 29 [l0, l1, l2, l3, l4, l5] (.ref x :: st) σ = den mX2_doOne 30 [l0, l1, l2, l3, l4, l5] (.ref x :: .ref x :: st) σ) ∧
  (∀ (l0 l1 l2 l3 l4 l5 : Option Value) (q : Nat) (st : List Value) (σ : dS), den mX2_doOne 30 [l0, l1, l2, l3, l4, l5] (.ref q :: st) σ = (dget σ q 1 3).bind fun v => den mX2_doOne 33 [l0, l1, l2, l3, l4, l5] (v :: st) σ) ∧
  (∀ (l0 l1 l2 l3 l4 l5 : Option Value) (st : List Value) (σ : dS), den mX2_doOne 33 [l0, l1, l2, l3, l4, l5] st σ = den mX2_doOne 34 [l0, l1, l2, l3, l4, l5] (.int (nI 1) :: st) σ) ∧
  (∀ (l0 l1 l2 l3 l4 l5 : Option Value) (x y : Int32) (st : List Value) (σ : dS), den mX2_doOne 34 [l0, l1, l2, l3, l4, l5] (.int y :: .int x :: st) σ = den mX2_doOne 35 [l0, l1, l2, l3, l4, l5] (.int (x + y) :: st) σ) ∧
  (∀ (l0 l1 l2 l3 l4 l5 : Option Value) (x : Int32) (q : Nat) (st : List Value) (σ : dS), den mX2_doOne 35 [l0, l1, l2, l3, l4, l5] (.int x :: .ref q :: st) σ = (dput σ q 1 3 (.int x)).bind fun τ => den mX2_doOne 38 [l0, l1, l2, l3, l4, l5] st τ) ∧
  (∀ (l0 l1 l2 l3 l4 l5 : Option Value) (σ : dS), den mX2_doOne 38 [l0, l1, l2, l3, l4, l5] [] σ = some (none, σ)) ∧
  (∀ (l1 l2 l3 l4 l5 : Option Value) (x : Nat) (st : List Value) (σ : dS), den mX2_doOne 39 [some (.ref x), l1, l2, l3, l4, l5] st σ = den mX2_doOne 40 [some (.ref x), l1, l2, l3, l4, l5] (.ref x :: st) σ) ∧
  (∀ (l0 l1 l2 l3 l4 l5 : Option Value) (q : Nat) (st : List Value) (σ : dS), den mX2_doOne 40 [l0, l1, l2, l3, l4, l5] (.ref q :: st) σ = (dget σ q 1 0).bind fun v => den mX2_doOne 43 [l0, l1, l2, l3, l4, l5] (v :: st) σ) ∧
  (∀ (l0 l2 l3 l4 l5 : Option Value) (x : Nat) (st : List Value) (σ : dS), den mX2_doOne 43 [l0, some (.ref x), l2, l3, l4, l5] st σ = den mX2_doOne 44 [l0, some (.ref x), l2, l3, l4, l5] (.ref x :: st) σ) ∧
  (∀ (l0 l1 l2 l3 l4 l5 : Option Value) (q : Nat) (st : List Value) (σ : dS), den mX2_doOne 44 [l0, l1, l2, l3, l4, l5] (.ref q :: st) σ = (dget σ q 2 2).bind fun v => den mX2_doOne 47 [l0, l1, l2, l3, l4, l5] (v :: st) σ) ∧
  (∀ (l0 l1 l3 l4 l5 : Option Value) (x : Int32) (st : List Value) (σ : dS), den mX2_doOne 47 [l0, l1, some (.int x), l3, l4, l5] st σ = den mX2_doOne 48 [l0, l1, some (.int x), l3, l4, l5] (.int x :: st) σ) ∧
  (∀ (l0 l1 l2 l3 l4 l5 : Option Value) (q : Nat) (i : Int32) (st : List Value) (σ : dS), den mX2_doOne 48 [l0, l1, l2, l3, l4, l5] (.int i :: .ref q :: st) σ = if q ≤ dN then (dald σ q 0 i).bind (fun v => den mX2_doOne 49 [l0, l1, l2, l3, l4, l5] (.int v :: st) σ) else none) ∧
  (∀ (l0 l1 l2 l3 l4 l5 : Option Value) (q : Nat) (i : Int32) (st : List Value) (σ : dS), den mX2_doOne 49 [l0, l1, l2, l3, l4, l5] (.int i :: .ref q :: st) σ = if q ≤ dN then (dald σ q 0 i).bind (fun v => den mX2_doOne 50 [l0, l1, l2, l3, l4, l5] (.int v :: st) σ) else none) ∧
  (∀ (l0 l1 l2 l4 l5 : Option Value) (x : Int32) (y : Int32) (st : List Value) (σ : dS), den mX2_doOne 50 [l0, l1, l2, some (.int y), l4, l5] (.int x :: st) σ = den mX2_doOne 52 [l0, l1, l2, some (.int y), some (.int x), l5] st σ) ∧
  (∀ (l1 l2 l3 l4 l5 : Option Value) (x : Nat) (st : List Value) (σ : dS), den mX2_doOne 52 [some (.ref x), l1, l2, l3, l4, l5] st σ = den mX2_doOne 53 [some (.ref x), l1, l2, l3, l4, l5] (.ref x :: st) σ) ∧
  (∀ (l0 l1 l2 l3 l4 l5 : Option Value) (q : Nat) (st : List Value) (σ : dS), den mX2_doOne 53 [l0, l1, l2, l3, l4, l5] (.ref q :: st) σ = (dget σ q 1 0).bind fun v => den mX2_doOne 56 [l0, l1, l2, l3, l4, l5] (v :: st) σ) ∧
  (∀ (l0 l2 l3 l4 l5 : Option Value) (x : Nat) (st : List Value) (σ : dS), den mX2_doOne 56 [l0, some (.ref x), l2, l3, l4, l5] st σ = den mX2_doOne 57 [l0, some (.ref x), l2, l3, l4, l5] (.ref x :: st) σ) ∧
  (∀ (l0 l1 l2 l3 l4 l5 : Option Value) (q : Nat) (st : List Value) (σ : dS), den mX2_doOne 57 [l0, l1, l2, l3, l4, l5] (.ref q :: st) σ = (dget σ q 2 3).bind fun v => den mX2_doOne 60 [l0, l1, l2, l3, l4, l5] (v :: st) σ) ∧
  (∀ (l0 l1 l3 l4 l5 : Option Value) (x : Int32) (st : List Value) (σ : dS), den mX2_doOne 60 [l0, l1, some (.int x), l3, l4, l5] st σ = den mX2_doOne 61 [l0, l1, some (.int x), l3, l4, l5] (.int x :: st) σ) ∧
  (∀ (l0 l1 l2 l3 l4 l5 : Option Value) (q : Nat) (i : Int32) (st : List Value) (σ : dS), den mX2_doOne 61 [l0, l1, l2, l3, l4, l5] (.int i :: .ref q :: st) σ = if q ≤ dN then (dald σ q 0 i).bind (fun v => den mX2_doOne 62 [l0, l1, l2, l3, l4, l5] (.int v :: st) σ) else none) ∧
  (∀ (l0 l1 l2 l3 l4 l5 : Option Value) (q : Nat) (i : Int32) (st : List Value) (σ : dS), den mX2_doOne 62 [l0, l1, l2, l3, l4, l5] (.int i :: .ref q :: st) σ = if q ≤ dN then (dald σ q 0 i).bind (fun v => den mX2_doOne 63 [l0, l1, l2, l3, l4, l5] (.int v :: st) σ) else none) :=
  ⟨fun l0 l2 l3 l4 l5 x st σ => dn_aload_n eX2_doOne dX2_doOne_0 rfl,
  fun l0 l1 l2 l3 l4 l5 q st σ => dn_getfield (f := (2, 0, 86)) eX2_doOne dX2_doOne_1 (by decide +kernel),
  fun l0 l1 l3 l4 l5 x st σ => dn_iload_n eX2_doOne dX2_doOne_4 rfl,
  fun l0 l1 l2 l3 l4 l5 q i st σ => dn_iaload eX2_doOne dX2_doOne_5,
  fun l0 l1 l3 l4 l5 x y st σ => dn_istore_n eX2_doOne dX2_doOne_6 rfl,
  fun l0 l1 l2 l4 l5 x st σ => dn_iload_n eX2_doOne dX2_doOne_7 rfl,
  fun l0 l1 l2 l3 l4 l5 x st σ => dn_if_ne eX2_doOne dX2_doOne_8 (by decide),
  fun l1 l2 l3 l4 l5 x st σ => dn_aload_n eX2_doOne dX2_doOne_11 rfl,
  fun l0 l1 l2 l3 l4 l5 q st σ => dn_getfield (f := (1, 0, 217)) eX2_doOne dX2_doOne_12 (by decide +kernel),
  fun l0 l2 l3 l4 l5 x st σ => dn_aload_n eX2_doOne dX2_doOne_15 rfl,
  fun l0 l1 l2 l3 l4 l5 q st σ => dn_getfield (f := (2, 1, 90)) eX2_doOne dX2_doOne_16 (by decide +kernel),
  fun l0 l1 l3 l4 l5 x st σ => dn_iload_n eX2_doOne dX2_doOne_19 rfl,
  fun l0 l1 l2 l3 l4 l5 q i st σ => dn_iaload eX2_doOne dX2_doOne_20,
  fun l0 l2 l3 l4 l5 x st σ => dn_aload_n eX2_doOne dX2_doOne_21 rfl,
  fun l0 l1 l2 l3 l4 l5 q st σ => dn_getfield (f := (2, 2, 95)) eX2_doOne dX2_doOne_22 (by decide +kernel),
  fun l0 l1 l3 l4 l5 x st σ => dn_iload_n eX2_doOne dX2_doOne_25 rfl,
  fun l0 l1 l2 l3 l4 l5 q i st σ => dn_iaload eX2_doOne dX2_doOne_26,
  fun l0 l1 l2 l3 l4 l5 q i x st σ => dn_iastore eX2_doOne dX2_doOne_27,
  fun l1 l2 l3 l4 l5 x st σ => dn_aload_n eX2_doOne dX2_doOne_28 rfl,
  fun l0 l1 l2 l3 l4 l5 x st σ => dn_dup eX2_doOne dX2_doOne_29 rfl,
  fun l0 l1 l2 l3 l4 l5 q st σ => dn_getfield (f := (1, 3, 221)) eX2_doOne dX2_doOne_30 (by decide +kernel),
  fun l0 l1 l2 l3 l4 l5 st σ => dn_iconst eX2_doOne dX2_doOne_33 kc_iconst_1,
  fun l0 l1 l2 l3 l4 l5 x y st σ => dn_iadd eX2_doOne dX2_doOne_34,
  fun l0 l1 l2 l3 l4 l5 x q st σ => dn_putfield (f := (1, 3, 221)) (ty := .int) eX2_doOne dX2_doOne_35 (by decide +kernel) (by decide +kernel) rfl,
  fun l0 l1 l2 l3 l4 l5 σ => dn_return eX2_doOne dX2_doOne_38 rfl,
  fun l1 l2 l3 l4 l5 x st σ => dn_aload_n eX2_doOne dX2_doOne_39 rfl,
  fun l0 l1 l2 l3 l4 l5 q st σ => dn_getfield (f := (1, 0, 217)) eX2_doOne dX2_doOne_40 (by decide +kernel),
  fun l0 l2 l3 l4 l5 x st σ => dn_aload_n eX2_doOne dX2_doOne_43 rfl,
  fun l0 l1 l2 l3 l4 l5 q st σ => dn_getfield (f := (2, 2, 95)) eX2_doOne dX2_doOne_44 (by decide +kernel),
  fun l0 l1 l3 l4 l5 x st σ => dn_iload_n eX2_doOne dX2_doOne_47 rfl,
  fun l0 l1 l2 l3 l4 l5 q i st σ => dn_iaload eX2_doOne dX2_doOne_48,
  fun l0 l1 l2 l3 l4 l5 q i st σ => dn_iaload eX2_doOne dX2_doOne_49,
  fun l0 l1 l2 l4 l5 x y st σ => dn_istore eX2_doOne dX2_doOne_50 rfl,
  fun l1 l2 l3 l4 l5 x st σ => dn_aload_n eX2_doOne dX2_doOne_52 rfl,
  fun l0 l1 l2 l3 l4 l5 q st σ => dn_getfield (f := (1, 0, 217)) eX2_doOne dX2_doOne_53 (by decide +kernel),
  fun l0 l2 l3 l4 l5 x st σ => dn_aload_n eX2_doOne dX2_doOne_56 rfl,
  fun l0 l1 l2 l3 l4 l5 q st σ => dn_getfield (f := (2, 3, 98)) eX2_doOne dX2_doOne_57 (by decide +kernel),
  fun l0 l1 l3 l4 l5 x st σ => dn_iload_n eX2_doOne dX2_doOne_60 rfl,
  fun l0 l1 l2 l3 l4 l5 q i st σ => dn_iaload eX2_doOne dX2_doOne_61,
  fun l0 l1 l2 l3 l4 l5 q i st σ => dn_iaload eX2_doOne dX2_doOne_62⟩
set_option maxRecDepth 20000 in
theorem SX2_doOne_1 : (∀ (l0 l1 l2 l3 l5 : Option Value) (x : Int32) (y : Int32) (st : List Value) (σ : dS), den mX2_doOne 63 [l0, l1, l2, l3, some (.int y), l5] (.int x :: st) σ = den mX2_doOne 65 [l0, l1, l2, l3, some (.int y), some (.int x)] st σ) ∧
  (∀ (l0 l1 l2 l4 l5 : Option Value) (x : Int32) (st : List Value) (σ : dS), den mX2_doOne 65 [l0, l1, l2, some (.int x), l4, l5] st σ = den mX2_doOne 66 [l0, l1, l2, some (.int x), l4, l5] (.int x :: st) σ) ∧
  (∀ (l0 l1 l2 l3 l4 l5 : Option Value) (st : List Value) (σ : dS), den mX2_doOne 66 [l0, l1, l2, l3, l4, l5] st σ = den mX2_doOne 67 [l0, l1, l2, l3, l4, l5] (.int (nI 4) :: st) σ) ∧
  (∀ (l0 l1 l2 l3 l4 l5 : Option Value) (x y : Int32) (st : List Value) (σ : dS), den mX2_doOne 67 [l0, l1, l2, l3, l4, l5] (.int y :: .int x :: st) σ = if x = y then den mX2_doOne 70 [l0, l1, l2, l3, l4, l5] st σ else den mX2_doOne 81 [l0, l1, l2, l3, l4, l5] st σ) ∧
  (∀ (l0 l1 l2 l3 l4 : Option Value) (x : Int32) (st : List Value) (σ : dS), den mX2_doOne 70 [l0, l1, l2, l3, l4, some (.int x)] st σ = den mX2_doOne 72 [l0, l1, l2, l3, l4, some (.int x)] (.int x :: st) σ) ∧
  (∀ (l0 l1 l2 l3 l4 l5 : Option Value) (x : Int32) (st : List Value) (σ : dS), den mX2_doOne 72 [l0, l1, l2, l3, l4, l5] (.int x :: st) σ = if x = 0 then den mX2_doOne 75 [l0, l1, l2, l3, l4, l5] st σ else den mX2_doOne 81 [l0, l1, l2, l3, l4, l5] st σ) ∧
  (∀ (l1 l2 l3 l4 l5 : Option Value) (x : Nat) (st : List Value) (σ : dS), den mX2_doOne 75 [some (.ref x), l1, l2, l3, l4, l5] st σ = den mX2_doOne 76 [some (.ref x), l1, l2, l3, l4, l5] (.ref x :: st) σ) ∧
  (∀ (l0 l1 l3 l4 l5 : Option Value) (x : Int32) (st : List Value) (σ : dS), den mX2_doOne 76 [l0, l1, some (.int x), l3, l4, l5] st σ = den mX2_doOne 77 [l0, l1, some (.int x), l3, l4, l5] (.int x :: st) σ) ∧
  (∀ (l0 l1 l2 l3 l4 l5 : Option Value) (x : Int32) (q : Nat) (st : List Value) (σ : dS), den mX2_doOne 77 [l0, l1, l2, l3, l4, l5] (.int x :: .ref q :: st) σ = (dput σ q 1 5 (.int x)).bind fun τ => den mX2_doOne 80 [l0, l1, l2, l3, l4, l5] st τ) ∧
  (∀ (l0 l1 l2 l3 l4 l5 : Option Value) (σ : dS), den mX2_doOne 80 [l0, l1, l2, l3, l4, l5] [] σ = some (none, σ)) ∧
  (∀ (l1 l2 l3 l4 l5 : Option Value) (x : Nat) (st : List Value) (σ : dS), den mX2_doOne 81 [some (.ref x), l1, l2, l3, l4, l5] st σ = den mX2_doOne 82 [some (.ref x), l1, l2, l3, l4, l5] (.ref x :: st) σ) ∧
  (∀ (l0 l1 l2 l3 l4 l5 : Option Value) (q : Nat) (st : List Value) (σ : dS), den mX2_doOne 82 [l0, l1, l2, l3, l4, l5] (.ref q :: st) σ = (dget σ q 1 0).bind fun v => den mX2_doOne 85 [l0, l1, l2, l3, l4, l5] (v :: st) σ) ∧
  (∀ (l0 l2 l3 l4 l5 : Option Value) (x : Nat) (st : List Value) (σ : dS), den mX2_doOne 85 [l0, some (.ref x), l2, l3, l4, l5] st σ = den mX2_doOne 86 [l0, some (.ref x), l2, l3, l4, l5] (.ref x :: st) σ) ∧
  (∀ (l0 l1 l2 l3 l4 l5 : Option Value) (q : Nat) (st : List Value) (σ : dS), den mX2_doOne 86 [l0, l1, l2, l3, l4, l5] (.ref q :: st) σ = (dget σ q 2 1).bind fun v => den mX2_doOne 89 [l0, l1, l2, l3, l4, l5] (v :: st) σ) ∧
  (∀ (l0 l1 l3 l4 l5 : Option Value) (x : Int32) (st : List Value) (σ : dS), den mX2_doOne 89 [l0, l1, some (.int x), l3, l4, l5] st σ = den mX2_doOne 90 [l0, l1, some (.int x), l3, l4, l5] (.int x :: st) σ) ∧
  (∀ (l0 l1 l2 l3 l4 l5 : Option Value) (q : Nat) (i : Int32) (st : List Value) (σ : dS), den mX2_doOne 90 [l0, l1, l2, l3, l4, l5] (.int i :: .ref q :: st) σ = if q ≤ dN then (dald σ q 0 i).bind (fun v => den mX2_doOne 91 [l0, l1, l2, l3, l4, l5] (.int v :: st) σ) else none) ∧
  (∀ (l0 l1 l2 l4 l5 : Option Value) (x : Int32) (st : List Value) (σ : dS), den mX2_doOne 91 [l0, l1, l2, some (.int x), l4, l5] st σ = den mX2_doOne 92 [l0, l1, l2, some (.int x), l4, l5] (.int x :: st) σ) ∧
  (∀ (l0 l1 l2 l3 l5 : Option Value) (x : Int32) (st : List Value) (σ : dS), den mX2_doOne 92 [l0, l1, l2, l3, some (.int x), l5] st σ = den mX2_doOne 94 [l0, l1, l2, l3, some (.int x), l5] (.int x :: st) σ) ∧
  (∀ (l0 l1 l2 l3 l4 : Option Value) (x : Int32) (st : List Value) (σ : dS), den mX2_doOne 94 [l0, l1, l2, l3, l4, some (.int x)] st σ = den mX2_doOne 96 [l0, l1, l2, l3, l4, some (.int x)] (.int x :: st) σ) ∧
  (∀ (l0 l1 l2 l3 l4 l5 : Option Value) (a0 : Int32) (a1 : Int32) (a2 : Int32) (b0 : Int32) (b1 : Nat) (σ : dS), den mX2_doOne 96 [l0, l1, l2, l3, l4, l5] [.int a2, .int a1, .int a0, .int b0, .ref b1] σ = (dcall mX2_computed [.int a0, .int a1, .int a2] σ).bind fun r => den mX2_doOne 99 [l0, l1, l2, l3, l4, l5] (r.1.toList ++ [.int b0, .ref b1]) r.2) ∧
  (∀ (l0 l1 l2 l3 l4 l5 : Option Value) (q : Nat) (i x : Int32) (st : List Value) (σ : dS), den mX2_doOne 99 [l0, l1, l2, l3, l4, l5] (.int x :: .int i :: .ref q :: st) σ = (dast σ q 0 i x).bind fun τ => den mX2_doOne 100 [l0, l1, l2, l3, l4, l5] st τ) ∧
  (∀ (l1 l2 l3 l4 l5 : Option Value) (x : Nat) (st : List Value) (σ : dS), den mX2_doOne 100 [some (.ref x), l1, l2, l3, l4, l5] st σ = den mX2_doOne 101 [some (.ref x), l1, l2, l3, l4, l5] (.ref x :: st) σ) ∧
  (∀ (l0 l1 l2 l3 l4 l5 : Option Value) (x : Nat) (st : List Value) (σ : dS), den mX2_doOne 101 [l0, l1, l2, l3, l4, l5] (.ref x :: st) σ = den mX2_doOne 102 [l0, l1, l2, l3, l4, l5] (.ref x :: .ref x :: st) σ) ∧
  (∀ (l0 l1 l2 l3 l4 l5 : Option Value) (q : Nat) (st : List Value) (σ : dS), den mX2_doOne 102 [l0, l1, l2, l3, l4, l5] (.ref q :: st) σ = (dget σ q 1 3).bind fun v => den mX2_doOne 105 [l0, l1, l2, l3, l4, l5] (v :: st) σ) ∧
  (∀ (l0 l1 l2 l3 l4 l5 : Option Value) (st : List Value) (σ : dS), den mX2_doOne 105 [l0, l1, l2, l3, l4, l5] st σ = den mX2_doOne 106 [l0, l1, l2, l3, l4, l5] (.int (nI 1) :: st) σ) ∧
  (∀ (l0 l1 l2 l3 l4 l5 : Option Value) (x y : Int32) (st : List Value) (σ : dS), den mX2_doOne 106 [l0, l1, l2, l3, l4, l5] (.int y :: .int x :: st) σ = den mX2_doOne 107 [l0, l1, l2, l3, l4, l5] (.int (x + y) :: st) σ) ∧
  (∀ (l0 l1 l2 l3 l4 l5 : Option Value) (x : Int32) (q : Nat) (st : List Value) (σ : dS), den mX2_doOne 107 [l0, l1, l2, l3, l4, l5] (.int x :: .ref q :: st) σ = (dput σ q 1 3 (.int x)).bind fun τ => den mX2_doOne 110 [l0, l1, l2, l3, l4, l5] st τ) ∧
  (∀ (l0 l1 l2 l3 l4 l5 : Option Value) (σ : dS), den mX2_doOne 110 [l0, l1, l2, l3, l4, l5] [] σ = some (none, σ)) :=
  ⟨fun l0 l1 l2 l3 l5 x y st σ => dn_istore eX2_doOne dX2_doOne_63 rfl,
  fun l0 l1 l2 l4 l5 x st σ => dn_iload_n eX2_doOne dX2_doOne_65 rfl,
  fun l0 l1 l2 l3 l4 l5 st σ => dn_iconst eX2_doOne dX2_doOne_66 kc_iconst_4,
  fun l0 l1 l2 l3 l4 l5 x y st σ => dn_icmp_ne eX2_doOne dX2_doOne_67 (by decide),
  fun l0 l1 l2 l3 l4 x st σ => dn_iload eX2_doOne dX2_doOne_70 rfl,
  fun l0 l1 l2 l3 l4 l5 x st σ => dn_if_ne eX2_doOne dX2_doOne_72 (by decide),
  fun l1 l2 l3 l4 l5 x st σ => dn_aload_n eX2_doOne dX2_doOne_75 rfl,
  fun l0 l1 l3 l4 l5 x st σ => dn_iload_n eX2_doOne dX2_doOne_76 rfl,
  fun l0 l1 l2 l3 l4 l5 x q st σ => dn_putfield (f := (1, 5, 225)) (ty := .int) eX2_doOne dX2_doOne_77 (by decide +kernel) (by decide +kernel) rfl,
  fun l0 l1 l2 l3 l4 l5 σ => dn_return eX2_doOne dX2_doOne_80 rfl,
  fun l1 l2 l3 l4 l5 x st σ => dn_aload_n eX2_doOne dX2_doOne_81 rfl,
  fun l0 l1 l2 l3 l4 l5 q st σ => dn_getfield (f := (1, 0, 217)) eX2_doOne dX2_doOne_82 (by decide +kernel),
  fun l0 l2 l3 l4 l5 x st σ => dn_aload_n eX2_doOne dX2_doOne_85 rfl,
  fun l0 l1 l2 l3 l4 l5 q st σ => dn_getfield (f := (2, 1, 90)) eX2_doOne dX2_doOne_86 (by decide +kernel),
  fun l0 l1 l3 l4 l5 x st σ => dn_iload_n eX2_doOne dX2_doOne_89 rfl,
  fun l0 l1 l2 l3 l4 l5 q i st σ => dn_iaload eX2_doOne dX2_doOne_90,
  fun l0 l1 l2 l4 l5 x st σ => dn_iload_n eX2_doOne dX2_doOne_91 rfl,
  fun l0 l1 l2 l3 l5 x st σ => dn_iload eX2_doOne dX2_doOne_92 rfl,
  fun l0 l1 l2 l3 l4 x st σ => dn_iload eX2_doOne dX2_doOne_94 rfl,
  fun l0 l1 l2 l3 l4 l5 a0 a1 a2 b0 b1 σ => dn_callS (e := (1, 20, 574)) (as := [.int a0, .int a1, .int a2]) (rest := [.int b0, .ref b1]) eX2_doOne dX2_doOne_96 (by decide +kernel) (Or.inl rfl) (by decide +kernel) rfl (dcat_le rfl) (dlen_le rfl) rfl,
  fun l0 l1 l2 l3 l4 l5 q i x st σ => dn_iastore eX2_doOne dX2_doOne_99,
  fun l1 l2 l3 l4 l5 x st σ => dn_aload_n eX2_doOne dX2_doOne_100 rfl,
  fun l0 l1 l2 l3 l4 l5 x st σ => dn_dup eX2_doOne dX2_doOne_101 rfl,
  fun l0 l1 l2 l3 l4 l5 q st σ => dn_getfield (f := (1, 3, 221)) eX2_doOne dX2_doOne_102 (by decide +kernel),
  fun l0 l1 l2 l3 l4 l5 st σ => dn_iconst eX2_doOne dX2_doOne_105 kc_iconst_1,
  fun l0 l1 l2 l3 l4 l5 x y st σ => dn_iadd eX2_doOne dX2_doOne_106,
  fun l0 l1 l2 l3 l4 l5 x q st σ => dn_putfield (f := (1, 3, 221)) (ty := .int) eX2_doOne dX2_doOne_107 (by decide +kernel) (by decide +kernel) rfl,
  fun l0 l1 l2 l3 l4 l5 σ => dn_return eX2_doOne dX2_doOne_110 rfl⟩
theorem CX2_goOverIf (a0 : Nat) (a1 : Int32) (a2 : Int32) (a3 : Int32) (a4 : Int32) (a5 : Int32) (σ : dS) : dcall mX2_goOverIf [.ref a0, .int a1, .int a2, .int a3, .int a4, .int a5] σ = den mX2_goOverIf 0 [some (.ref a0), some (.int a1), some (.int a2), some (.int a3), some (.int a4), some (.int a5), none] [] σ := dcall_den (by decide) rfl
set_option maxRecDepth 20000 in
theorem SX2_goOverIf_0 : (∀ (l0 l1 l2 l3 l4 l5 l6 : Option Value) (st : List Value) (σ : dS), den mX2_goOverIf 0 [l0, l1, l2, l3, l4, l5, l6] st σ = den mX2_goOverIf 1 [l0, l1, l2, l3, l4, l5, l6] (.int (nI 2) :: st) σ) ∧
  (∀ (l0 l2 l3 l4 l5 l6 : Option Value) (x : Int32) (st : List Value) (σ : dS), den mX2_goOverIf 1 [l0, some (.int x), l2, l3, l4, l5, l6] st σ = den mX2_goOverIf 2 [l0, some (.int x), l2, l3, l4, l5, l6] (.int x :: st) σ) ∧
  (∀ (l0 l1 l2 l3 l4 l5 l6 : Option Value) (x y : Int32) (st : List Value) (σ : dS), den mX2_goOverIf 2 [l0, l1, l2, l3, l4, l5, l6] (.int y :: .int x :: st) σ = den mX2_goOverIf 3 [l0, l1, l2, l3, l4, l5, l6] (.int (x * y) :: st) σ) ∧
  (∀ (l0 l1 l2 l3 l4 l5 l6 : Option Value) (st : List Value) (σ : dS), den mX2_goOverIf 3 [l0, l1, l2, l3, l4, l5, l6] st σ = den mX2_goOverIf 4 [l0, l1, l2, l3, l4, l5, l6] (.int (nI 1) :: st) σ) ∧
  (∀ (l0 l1 l2 l3 l4 l5 l6 : Option Value) (x y : Int32) (st : List Value) (σ : dS), den mX2_goOverIf 4 [l0, l1, l2, l3, l4, l5, l6] (.int y :: .int x :: st) σ = den mX2_goOverIf 5 [l0, l1, l2, l3, l4, l5, l6] (.int (x + y) :: st) σ) ∧
  (∀ (l0 l1 l2 l3 l4 l6 : Option Value) (x : Int32) (y : Int32) (st : List Value) (σ : dS), den mX2_goOverIf 5 [l0, l1, l2, l3, l4, some (.int y), l6] (.int x :: st) σ = den mX2_goOverIf 7 [l0, l1, l2, l3, l4, some (.int y), some (.int x)] st σ) ∧
  (∀ (l0 l1 l2 l4 l5 l6 : Option Value) (x : Int32) (st : List Value) (σ : dS), den mX2_goOverIf 7 [l0, l1, l2, some (.int x), l4, l5, l6] st σ = den mX2_goOverIf 8 [l0, l1, l2, some (.int x), l4, l5, l6] (.int x :: st) σ) ∧
  (∀ (l0 l1 l2 l3 l4 l5 l6 : Option Value) (x : Int32) (st : List Value) (σ : dS), den mX2_goOverIf 8 [l0, l1, l2, l3, l4, l5, l6] (.int x :: st) σ = if x = 0 then den mX2_goOverIf 29 [l0, l1, l2, l3, l4, l5, l6] st σ else den mX2_goOverIf 11 [l0, l1, l2, l3, l4, l5, l6] st σ) ∧
  (∀ (l1 l2 l3 l4 l5 l6 : Option Value) (x : Nat) (st : List Value) (σ : dS), den mX2_goOverIf 11 [some (.ref x), l1, l2, l3, l4, l5, l6] st σ = den mX2_goOverIf 12 [some (.ref x), l1, l2, l3, l4, l5, l6] (.ref x :: st) σ) ∧
  (∀ (l0 l1 l2 l3 l4 l5 l6 : Option Value) (x : Nat) (st : List Value) (σ : dS), den mX2_goOverIf 12 [l0, l1, l2, l3, l4, l5, l6] (.ref x :: st) σ = den mX2_goOverIf 13 [l0, l1, l2, l3, l4, l5, l6] (.ref x :: .ref x :: st) σ) ∧
  (∀ (l0 l1 l2 l3 l4 l5 l6 : Option Value) (q : Nat) (st : List Value) (σ : dS), den mX2_goOverIf 13 [l0, l1, l2, l3, l4, l5, l6] (.ref q :: st) σ = (dget σ q 1 4).bind fun v => den mX2_goOverIf 16 [l0, l1, l2, l3, l4, l5, l6] (v :: st) σ) ∧
  (∀ (l0 l1 l3 l4 l5 l6 : Option Value) (x : Int32) (st : List Value) (σ : dS), den mX2_goOverIf 16 [l0, l1, some (.int x), l3, l4, l5, l6] st σ = den mX2_goOverIf 17 [l0, l1, some (.int x), l3, l4, l5, l6] (.int x :: st) σ) ∧
  (∀ (l0 l1 l2 l3 l4 l5 l6 : Option Value) (x : Int32) (st : List Value) (σ : dS), den mX2_goOverIf 17 [l0, l1, l2, l3, l4, l5, l6] (.int x :: st) σ = if x = 0 then den mX2_goOverIf 24 [l0, l1, l2, l3, l4, l5, l6] st σ else den mX2_goOverIf 20 [l0, l1, l2, l3, l4, l5, l6] st σ) ∧
  (∀ (l0 l1 l2 l3 l4 l5 l6 : Option Value) (st : List Value) (σ : dS), den mX2_goOverIf 20 [l0, l1, l2, l3, l4, l5, l6] st σ = den mX2_goOverIf 21 [l0, l1, l2, l3, l4, l5, l6] (.int (nI 1) :: st) σ) ∧
  (∀ (l0 l1 l2 l3 l4 l5 l6 : Option Value) (st : List Value) (σ : dS), den mX2_goOverIf 21 [l0, l1, l2, l3, l4, l5, l6] st σ = den mX2_goOverIf 25 [l0, l1, l2, l3, l4, l5, l6] st σ) ∧
  (∀ (l0 l1 l2 l3 l4 l5 l6 : Option Value) (st : List Value) (σ : dS), den mX2_goOverIf 24 [l0, l1, l2, l3, l4, l5, l6] st σ = den mX2_goOverIf 25 [l0, l1, l2, l3, l4, l5, l6] (.int (nI 4) :: st) σ) ∧
  (∀ (l0 l1 l2 l3 l4 l5 l6 : Option Value) (x y : Int32) (st : List Value) (σ : dS), den mX2_goOverIf 25 [l0, l1, l2, l3, l4, l5, l6] (.int y :: .int x :: st) σ = den mX2_goOverIf 26 [l0, l1, l2, l3, l4, l5, l6] (.int (x + y) :: st) σ) ∧
  (∀ (l0 l1 l2 l3 l4 l5 l6 : Option Value) (x : Int32) (q : Nat) (st : List Value) (σ : dS), den mX2_goOverIf 26 [l0, l1, l2, l3, l4, l5, l6] (.int x :: .ref q :: st) σ = (dput σ q 1 4 (.int x)).bind fun τ => den mX2_goOverIf 29 [l0, l1, l2, l3, l4, l5, l6] st τ) ∧
  (∀ (l0 l1 l2 l4 l5 l6 : Option Value) (x : Int32) (st : List Value) (σ : dS), den mX2_goOverIf 29 [l0, l1, l2, some (.int x), l4, l5, l6] st σ = den mX2_goOverIf 30 [l0, l1, l2, some (.int x), l4, l5, l6] (.int x :: st) σ) ∧
  (∀ (l0 l1 l2 l3 l4 l5 l6 : Option Value) (x : Int32) (st : List Value) (σ : dS), den mX2_goOverIf 30 [l0, l1, l2, l3, l4, l5, l6] (.int x :: st) σ = if x = 0 then den mX2_goOverIf 50 [l0, l1, l2, l3, l4, l5, l6] st σ else den mX2_goOverIf 33 [l0, l1, l2, l3, l4, l5, l6] st σ) ∧
  (∀ (l0 l1 l3 l4 l5 l6 : Option Value) (x : Int32) (st : List Value) (σ : dS), den mX2_goOverIf 33 [l0, l1, some (.int x), l3, l4, l5, l6] st σ = den mX2_goOverIf 34 [l0, l1, some (.int x), l3, l4, l5, l6] (.int x :: st) σ) ∧
  (∀ (l0 l1 l2 l3 l4 l5 l6 : Option Value) (x : Int32) (st : List Value) (σ : dS), den mX2_goOverIf 34 [l0, l1, l2, l3, l4, l5, l6] (.int x :: st) σ = if x = 0 then den mX2_goOverIf 50 [l0, l1, l2, l3, l4, l5, l6] st σ else den mX2_goOverIf 37 [l0, l1, l2, l3, l4, l5, l6] st σ) ∧
  (∀ (l1 l2 l3 l4 l5 l6 : Option Value) (x : Nat) (st : List Value) (σ : dS), den mX2_goOverIf 37 [some (.ref x), l1, l2, l3, l4, l5, l6] st σ = den mX2_goOverIf 38 [some (.ref x), l1, l2, l3, l4, l5, l6] (.ref x :: st) σ) ∧
  (∀ (l0 l1 l2 l3 l4 l5 l6 : Option Value) (x : Nat) (st : List Value) (σ : dS), den mX2_goOverIf 38 [l0, l1, l2, l3, l4, l5, l6] (.ref x :: st) σ = den mX2_goOverIf 39 [l0, l1, l2, l3, l4, l5, l6] (.ref x :: .ref x :: st) σ) ∧
  (∀ (l0 l1 l2 l3 l4 l5 l6 : Option Value) (q : Nat) (st : List Value) (σ : dS), den mX2_goOverIf 39 [l0, l1, l2, l3, l4, l5, l6] (.ref q :: st) σ = (dget σ q 1 2).bind fun v => den mX2_goOverIf 42 [l0, l1, l2, l3, l4, l5, l6] (v :: st) σ) ∧
  (∀ (l0 l1 l2 l3 l4 l5 l6 : Option Value) (st : List Value) (σ : dS), den mX2_goOverIf 42 [l0, l1, l2, l3, l4, l5, l6] st σ = den mX2_goOverIf 43 [l0, l1, l2, l3, l4, l5, l6] (.int (nI 3) :: st) σ) ∧
  (∀ (l0 l1 l2 l3 l4 l5 : Option Value) (x : Int32) (st : List Value) (σ : dS), den mX2_goOverIf 43 [l0, l1, l2, l3, l4, l5, some (.int x)] st σ = den mX2_goOverIf 45 [l0, l1, l2, l3, l4, l5, some (.int x)] (.int x :: st) σ) ∧
  (∀ (l0 l1 l2 l3 l4 l5 l6 : Option Value) (x y : Int32) (st : List Value) (σ : dS), den mX2_goOverIf 45 [l0, l1, l2, l3, l4, l5, l6] (.int y :: .int x :: st) σ = den mX2_goOverIf 46 [l0, l1, l2, l3, l4, l5, l6] (.int (x <<< (y &&& 31)) :: st) σ) ∧
  (∀ (l0 l1 l2 l3 l4 l5 l6 : Option Value) (x y : Int32) (st : List Value) (σ : dS), den mX2_goOverIf 46 [l0, l1, l2, l3, l4, l5, l6] (.int y :: .int x :: st) σ = den mX2_goOverIf 47 [l0, l1, l2, l3, l4, l5, l6] (.int (x ||| y) :: st) σ) ∧
  (∀ (l0 l1 l2 l3 l4 l5 l6 : Option Value) (x : Int32) (q : Nat) (st : List Value) (σ : dS), den mX2_goOverIf 47 [l0, l1, l2, l3, l4, l5, l6] (.int x :: .ref q :: st) σ = (dput σ q 1 2 (.int x)).bind fun τ => den mX2_goOverIf 50 [l0, l1, l2, l3, l4, l5, l6] st τ) ∧
  (∀ (l0 l1 l2 l3 l5 l6 : Option Value) (x : Int32) (st : List Value) (σ : dS), den mX2_goOverIf 50 [l0, l1, l2, l3, some (.int x), l5, l6] st σ = den mX2_goOverIf 52 [l0, l1, l2, l3, some (.int x), l5, l6] (.int x :: st) σ) ∧
  (∀ (l0 l1 l2 l3 l4 l5 l6 : Option Value) (x : Int32) (st : List Value) (σ : dS), den mX2_goOverIf 52 [l0, l1, l2, l3, l4, l5, l6] (.int x :: st) σ = if x = 0 then den mX2_goOverIf 90 [l0, l1, l2, l3, l4, l5, l6] st σ else den mX2_goOverIf 55 [l0, l1, l2, l3, l4, l5, l6] st σ) ∧
  (∀ (l1 l2 l3 l4 l5 l6 : Option Value) (x : Nat) (st : List Value) (σ : dS), den mX2_goOverIf 55 [some (.ref x), l1, l2, l3, l4, l5, l6] st σ = den mX2_goOverIf 56 [some (.ref x), l1, l2, l3, l4, l5, l6] (.ref x :: st) σ) ∧
  (∀ (l0 l1 l2 l3 l4 l5 l6 : Option Value) (x : Nat) (st : List Value) (σ : dS), den mX2_goOverIf 56 [l0, l1, l2, l3, l4, l5, l6] (.ref x :: st) σ = den mX2_goOverIf 57 [l0, l1, l2, l3, l4, l5, l6] (.ref x :: .ref x :: st) σ) ∧
  (∀ (l0 l1 l2 l3 l4 l5 l6 : Option Value) (q : Nat) (st : List Value) (σ : dS), den mX2_goOverIf 57 [l0, l1, l2, l3, l4, l5, l6] (.ref q :: st) σ = (dget σ q 1 1).bind fun v => den mX2_goOverIf 60 [l0, l1, l2, l3, l4, l5, l6] (v :: st) σ) ∧
  (∀ (l0 l1 l2 l3 l4 l5 l6 : Option Value) (st : List Value) (σ : dS), den mX2_goOverIf 60 [l0, l1, l2, l3, l4, l5, l6] st σ = den mX2_goOverIf 61 [l0, l1, l2, l3, l4, l5, l6] (.int (nI 1) :: st) σ) ∧
  (∀ (l0 l1 l2 l3 l4 l6 : Option Value) (x : Int32) (st : List Value) (σ : dS), den mX2_goOverIf 61 [l0, l1, l2, l3, l4, some (.int x), l6] st σ = den mX2_goOverIf 63 [l0, l1, l2, l3, l4, some (.int x), l6] (.int x :: st) σ) ∧
  (∀ (l0 l1 l2 l3 l4 l5 l6 : Option Value) (x : Int32) (st : List Value) (σ : dS), den mX2_goOverIf 63 [l0, l1, l2, l3, l4, l5, l6] (.int x :: st) σ = if x = 0 then den mX2_goOverIf 71 [l0, l1, l2, l3, l4, l5, l6] st σ else den mX2_goOverIf 66 [l0, l1, l2, l3, l4, l5, l6] st σ) ∧
  (∀ (l0 l1 l2 l3 l4 l5 : Option Value) (x : Int32) (st : List Value) (σ : dS), den mX2_goOverIf 66 [l0, l1, l2, l3, l4, l5, some (.int x)] st σ = den mX2_goOverIf 68 [l0, l1, l2, l3, l4, l5, some (.int x)] (.int x :: st) σ) ∧
  (∀ (l0 l1 l2 l3 l4 l5 l6 : Option Value) (st : List Value) (σ : dS), den mX2_goOverIf 68 [l0, l1, l2, l3, l4, l5, l6] st σ = den mX2_goOverIf 75 [l0, l1, l2, l3, l4, l5, l6] st σ) :=
  ⟨fun l0 l1 l2 l3 l4 l5 l6 st σ => dn_iconst eX2_goOverIf dX2_goOverIf_0 kc_iconst_2,
  fun l0 l2 l3 l4 l5 l6 x st σ => dn_iload_n eX2_goOverIf dX2_goOverIf_1 rfl,
  fun l0 l1 l2 l3 l4 l5 l6 x y st σ => dn_imul eX2_goOverIf dX2_goOverIf_2,
  fun l0 l1 l2 l3 l4 l5 l6 st σ => dn_iconst eX2_goOverIf dX2_goOverIf_3 kc_iconst_1,
  fun l0 l1 l2 l3 l4 l5 l6 x y st σ => dn_iadd eX2_goOverIf dX2_goOverIf_4,
  fun l0 l1 l2 l3 l4 l6 x y st σ => dn_istore eX2_goOverIf dX2_goOverIf_5 rfl,
  fun l0 l1 l2 l4 l5 l6 x st σ => dn_iload_n eX2_goOverIf dX2_goOverIf_7 rfl,
  fun l0 l1 l2 l3 l4 l5 l6 x st σ => dn_if_eq eX2_goOverIf dX2_goOverIf_8 (by decide),
  fun l1 l2 l3 l4 l5 l6 x st σ => dn_aload_n eX2_goOverIf dX2_goOverIf_11 rfl,
  fun l0 l1 l2 l3 l4 l5 l6 x st σ => dn_dup eX2_goOverIf dX2_goOverIf_12 rfl,
  fun l0 l1 l2 l3 l4 l5 l6 q st σ => dn_getfield (f := (1, 4, 223)) eX2_goOverIf dX2_goOverIf_13 (by decide +kernel),
  fun l0 l1 l3 l4 l5 l6 x st σ => dn_iload_n eX2_goOverIf dX2_goOverIf_16 rfl,
  fun l0 l1 l2 l3 l4 l5 l6 x st σ => dn_if_eq eX2_goOverIf dX2_goOverIf_17 (by decide),
  fun l0 l1 l2 l3 l4 l5 l6 st σ => dn_iconst eX2_goOverIf dX2_goOverIf_20 kc_iconst_1,
  fun l0 l1 l2 l3 l4 l5 l6 st σ => dn_goto eX2_goOverIf dX2_goOverIf_21 (by decide),
  fun l0 l1 l2 l3 l4 l5 l6 st σ => dn_iconst eX2_goOverIf dX2_goOverIf_24 kc_iconst_4,
  fun l0 l1 l2 l3 l4 l5 l6 x y st σ => dn_iadd eX2_goOverIf dX2_goOverIf_25,
  fun l0 l1 l2 l3 l4 l5 l6 x q st σ => dn_putfield (f := (1, 4, 223)) (ty := .int) eX2_goOverIf dX2_goOverIf_26 (by decide +kernel) (by decide +kernel) rfl,
  fun l0 l1 l2 l4 l5 l6 x st σ => dn_iload_n eX2_goOverIf dX2_goOverIf_29 rfl,
  fun l0 l1 l2 l3 l4 l5 l6 x st σ => dn_if_eq eX2_goOverIf dX2_goOverIf_30 (by decide),
  fun l0 l1 l3 l4 l5 l6 x st σ => dn_iload_n eX2_goOverIf dX2_goOverIf_33 rfl,
  fun l0 l1 l2 l3 l4 l5 l6 x st σ => dn_if_eq eX2_goOverIf dX2_goOverIf_34 (by decide),
  fun l1 l2 l3 l4 l5 l6 x st σ => dn_aload_n eX2_goOverIf dX2_goOverIf_37 rfl,
  fun l0 l1 l2 l3 l4 l5 l6 x st σ => dn_dup eX2_goOverIf dX2_goOverIf_38 rfl,
  fun l0 l1 l2 l3 l4 l5 l6 q st σ => dn_getfield (f := (1, 2, 220)) eX2_goOverIf dX2_goOverIf_39 (by decide +kernel),
  fun l0 l1 l2 l3 l4 l5 l6 st σ => dn_iconst eX2_goOverIf dX2_goOverIf_42 kc_iconst_3,
  fun l0 l1 l2 l3 l4 l5 x st σ => dn_iload eX2_goOverIf dX2_goOverIf_43 rfl,
  fun l0 l1 l2 l3 l4 l5 l6 x y st σ => dn_ishl eX2_goOverIf dX2_goOverIf_45,
  fun l0 l1 l2 l3 l4 l5 l6 x y st σ => dn_ior eX2_goOverIf dX2_goOverIf_46,
  fun l0 l1 l2 l3 l4 l5 l6 x q st σ => dn_putfield (f := (1, 2, 220)) (ty := .int) eX2_goOverIf dX2_goOverIf_47 (by decide +kernel) (by decide +kernel) rfl,
  fun l0 l1 l2 l3 l5 l6 x st σ => dn_iload eX2_goOverIf dX2_goOverIf_50 rfl,
  fun l0 l1 l2 l3 l4 l5 l6 x st σ => dn_if_eq eX2_goOverIf dX2_goOverIf_52 (by decide),
  fun l1 l2 l3 l4 l5 l6 x st σ => dn_aload_n eX2_goOverIf dX2_goOverIf_55 rfl,
  fun l0 l1 l2 l3 l4 l5 l6 x st σ => dn_dup eX2_goOverIf dX2_goOverIf_56 rfl,
  fun l0 l1 l2 l3 l4 l5 l6 q st σ => dn_getfield (f := (1, 1, 219)) eX2_goOverIf dX2_goOverIf_57 (by decide +kernel),
  fun l0 l1 l2 l3 l4 l5 l6 st σ => dn_iconst eX2_goOverIf dX2_goOverIf_60 kc_iconst_1,
  fun l0 l1 l2 l3 l4 l6 x st σ => dn_iload eX2_goOverIf dX2_goOverIf_61 rfl,
  fun l0 l1 l2 l3 l4 l5 l6 x st σ => dn_if_eq eX2_goOverIf dX2_goOverIf_63 (by decide),
  fun l0 l1 l2 l3 l4 l5 x st σ => dn_iload eX2_goOverIf dX2_goOverIf_66 rfl,
  fun l0 l1 l2 l3 l4 l5 l6 st σ => dn_goto eX2_goOverIf dX2_goOverIf_68 (by decide)⟩
set_option maxRecDepth 20000 in
theorem SX2_goOverIf_1 : (∀ (l0 l1 l2 l3 l4 l5 : Option Value) (x : Int32) (st : List Value) (σ : dS), den mX2_goOverIf 71 [l0, l1, l2, l3, l4, l5, some (.int x)] st σ = den mX2_goOverIf 73 [l0, l1, l2, l3, l4, l5, some (.int x)] (.int x :: st) σ) ∧
  (∀ (l0 l1 l2 l3 l4 l5 l6 : Option Value) (st : List Value) (σ : dS), den mX2_goOverIf 73 [l0, l1, l2, l3, l4, l5, l6] st σ = den mX2_goOverIf 74 [l0, l1, l2, l3, l4, l5, l6] (.int (nI 1) :: st) σ) ∧
  (∀ (l0 l1 l2 l3 l4 l5 l6 : Option Value) (x y : Int32) (st : List Value) (σ : dS), den mX2_goOverIf 74 [l0, l1, l2, l3, l4, l5, l6] (.int y :: .int x :: st) σ = den mX2_goOverIf 75 [l0, l1, l2, l3, l4, l5, l6] (.int (x + y) :: st) σ) ∧
  (∀ (l0 l1 l2 l3 l4 l5 l6 : Option Value) (x y : Int32) (st : List Value) (σ : dS), den mX2_goOverIf 75 [l0, l1, l2, l3, l4, l5, l6] (.int y :: .int x :: st) σ = den mX2_goOverIf 76 [l0, l1, l2, l3, l4, l5, l6] (.int (x <<< (y &&& 31)) :: st) σ) ∧
  (∀ (l0 l1 l2 l3 l4 l5 l6 : Option Value) (x y : Int32) (st : List Value) (σ : dS), den mX2_goOverIf 76 [l0, l1, l2, l3, l4, l5, l6] (.int y :: .int x :: st) σ = den mX2_goOverIf 77 [l0, l1, l2, l3, l4, l5, l6] (.int (x ||| y) :: st) σ) ∧
  (∀ (l0 l1 l2 l3 l4 l5 l6 : Option Value) (x : Int32) (q : Nat) (st : List Value) (σ : dS), den mX2_goOverIf 77 [l0, l1, l2, l3, l4, l5, l6] (.int x :: .ref q :: st) σ = (dput σ q 1 1 (.int x)).bind fun τ => den mX2_goOverIf 80 [l0, l1, l2, l3, l4, l5, l6] st τ) ∧
  (∀ (l1 l2 l3 l4 l5 l6 : Option Value) (x : Nat) (st : List Value) (σ : dS), den mX2_goOverIf 80 [some (.ref x), l1, l2, l3, l4, l5, l6] st σ = den mX2_goOverIf 81 [some (.ref x), l1, l2, l3, l4, l5, l6] (.ref x :: st) σ) ∧
  (∀ (l0 l1 l2 l3 l4 l5 l6 : Option Value) (x : Nat) (st : List Value) (σ : dS), den mX2_goOverIf 81 [l0, l1, l2, l3, l4, l5, l6] (.ref x :: st) σ = den mX2_goOverIf 82 [l0, l1, l2, l3, l4, l5, l6] (.ref x :: .ref x :: st) σ) ∧
  (∀ (l0 l1 l2 l3 l4 l5 l6 : Option Value) (q : Nat) (st : List Value) (σ : dS), den mX2_goOverIf 82 [l0, l1, l2, l3, l4, l5, l6] (.ref q :: st) σ = (dget σ q 1 3).bind fun v => den mX2_goOverIf 85 [l0, l1, l2, l3, l4, l5, l6] (v :: st) σ) ∧
  (∀ (l0 l1 l2 l3 l4 l5 l6 : Option Value) (st : List Value) (σ : dS), den mX2_goOverIf 85 [l0, l1, l2, l3, l4, l5, l6] st σ = den mX2_goOverIf 86 [l0, l1, l2, l3, l4, l5, l6] (.int (nI 1) :: st) σ) ∧
  (∀ (l0 l1 l2 l3 l4 l5 l6 : Option Value) (x y : Int32) (st : List Value) (σ : dS), den mX2_goOverIf 86 [l0, l1, l2, l3, l4, l5, l6] (.int y :: .int x :: st) σ = den mX2_goOverIf 87 [l0, l1, l2, l3, l4, l5, l6] (.int (x + y) :: st) σ) ∧
  (∀ (l0 l1 l2 l3 l4 l5 l6 : Option Value) (x : Int32) (q : Nat) (st : List Value) (σ : dS), den mX2_goOverIf 87 [l0, l1, l2, l3, l4, l5, l6] (.int x :: .ref q :: st) σ = (dput σ q 1 3 (.int x)).bind fun τ => den mX2_goOverIf 90 [l0, l1, l2, l3, l4, l5, l6] st τ) ∧
  (∀ (l0 l1 l2 l3 l4 l5 l6 : Option Value) (σ : dS), den mX2_goOverIf 90 [l0, l1, l2, l3, l4, l5, l6] [] σ = some (none, σ)) :=
  ⟨fun l0 l1 l2 l3 l4 l5 x st σ => dn_iload eX2_goOverIf dX2_goOverIf_71 rfl,
  fun l0 l1 l2 l3 l4 l5 l6 st σ => dn_iconst eX2_goOverIf dX2_goOverIf_73 kc_iconst_1,
  fun l0 l1 l2 l3 l4 l5 l6 x y st σ => dn_iadd eX2_goOverIf dX2_goOverIf_74,
  fun l0 l1 l2 l3 l4 l5 l6 x y st σ => dn_ishl eX2_goOverIf dX2_goOverIf_75,
  fun l0 l1 l2 l3 l4 l5 l6 x y st σ => dn_ior eX2_goOverIf dX2_goOverIf_76,
  fun l0 l1 l2 l3 l4 l5 l6 x q st σ => dn_putfield (f := (1, 1, 219)) (ty := .int) eX2_goOverIf dX2_goOverIf_77 (by decide +kernel) (by decide +kernel) rfl,
  fun l1 l2 l3 l4 l5 l6 x st σ => dn_aload_n eX2_goOverIf dX2_goOverIf_80 rfl,
  fun l0 l1 l2 l3 l4 l5 l6 x st σ => dn_dup eX2_goOverIf dX2_goOverIf_81 rfl,
  fun l0 l1 l2 l3 l4 l5 l6 q st σ => dn_getfield (f := (1, 3, 221)) eX2_goOverIf dX2_goOverIf_82 (by decide +kernel),
  fun l0 l1 l2 l3 l4 l5 l6 st σ => dn_iconst eX2_goOverIf dX2_goOverIf_85 kc_iconst_1,
  fun l0 l1 l2 l3 l4 l5 l6 x y st σ => dn_iadd eX2_goOverIf dX2_goOverIf_86,
  fun l0 l1 l2 l3 l4 l5 l6 x q st σ => dn_putfield (f := (1, 3, 221)) (ty := .int) eX2_goOverIf dX2_goOverIf_87 (by decide +kernel) (by decide +kernel) rfl,
  fun l0 l1 l2 l3 l4 l5 l6 σ => dn_return eX2_goOverIf dX2_goOverIf_90 rfl⟩
theorem CX2_doAll (a0 : Nat) (a1 : Nat) (a2 : Nat) (σ : dS) : dcall mX2_doAll [.ref a0, .ref a1, .ref a2] σ = den mX2_doAll 0 [some (.ref a0), some (.ref a1), some (.ref a2), none, none, none, none, none] [] σ := dcall_den (by decide) rfl
theorem hX2_doAll_31 (l0 l1 l2 l3 l5 l6 l7 : Option Value) (x : Int32) (st : List Value) (σ : dS) : den mX2_doAll 31 [l0, l1, l2, l3, some (.int x), l5, l6, l7] st σ = den mX2_doAll 33 [l0, l1, l2, l3, some (.int x), l5, l6, l7] (.int x :: st) σ := dn_iload eX2_doAll dX2_doAll_31 rfl
theorem rX2_doAll_146 (l0 l1 l2 l3 l4 l5 l6 l7 : Option Value) (a0 : Int32) (a1 : Int32) (a2 : Int32) (a3 : Int32) (a4 : Int32) (q : Nat) (σ : dS) : den mX2_doAll 146 [l0, l1, l2, l3, l4, l5, l6, l7] [.int a4, .int a3, .int a2, .int a1, .int a0, .ref q] σ = if disO σ q 1 = true then ((dcall mX2_goOverIf [.ref q, .int a0, .int a1, .int a2, .int a3, .int a4] σ).bind fun r => den mX2_doAll 149 [l0, l1, l2, l3, l4, l5, l6, l7] (r.1.toList ++ []) r.2) else none := by
  by_cases h : disO σ q 1 = true
  · rw [if_pos h]; exact dn_callV (e := (0, 22, 566)) (as := [.int a0, .int a1, .int a2, .int a3, .int a4]) (rest := []) eX2_doAll dX2_doAll_146 (by decide +kernel) rfl (by decide +kernel) rfl (dcat_le rfl) (dlen_le rfl) rfl h
  · rw [if_neg h]; exact den_noV (e := (0, 22, 566)) (as := [.int a0, .int a1, .int a2, .int a3, .int a4]) (rest := []) eX2_doAll dX2_doAll_146 (by decide +kernel) rfl rfl rfl h
theorem rX2_doAll_189 (l0 l1 l2 l3 l4 l5 l6 l7 : Option Value) (a0 : Nat) (a1 : Int32) (q : Nat) (σ : dS) : den mX2_doAll 189 [l0, l1, l2, l3, l4, l5, l6, l7] [.int a1, .ref a0, .ref q] σ = if disO σ q 1 = true then ((dcall mX2_doOne [.ref q, .ref a0, .int a1] σ).bind fun r => den mX2_doAll 192 [l0, l1, l2, l3, l4, l5, l6, l7] (r.1.toList ++ []) r.2) else none := by
  by_cases h : disO σ q 1 = true
  · rw [if_pos h]; exact dn_callV (e := (0, 21, 570)) (as := [.ref a0, .int a1]) (rest := []) eX2_doAll dX2_doAll_189 (by decide +kernel) rfl (by decide +kernel) rfl (dcat_le rfl) (dlen_le rfl) rfl h
  · rw [if_neg h]; exact den_noV (e := (0, 21, 570)) (as := [.ref a0, .int a1]) (rest := []) eX2_doAll dX2_doAll_189 (by decide +kernel) rfl rfl rfl h
set_option maxRecDepth 20000 in
theorem SX2_doAll_0 : (∀ (l1 l2 l3 l4 l5 l6 l7 : Option Value) (x : Nat) (st : List Value) (σ : dS), den mX2_doAll 0 [some (.ref x), l1, l2, l3, l4, l5, l6, l7] st σ = den mX2_doAll 1 [some (.ref x), l1, l2, l3, l4, l5, l6, l7] (.ref x :: st) σ) ∧
  (∀ (l0 l1 l2 l3 l4 l5 l6 l7 : Option Value) (st : List Value) (σ : dS), den mX2_doAll 1 [l0, l1, l2, l3, l4, l5, l6, l7] st σ = den mX2_doAll 2 [l0, l1, l2, l3, l4, l5, l6, l7] (.int (nI 0) :: st) σ) ∧
  (∀ (l0 l1 l2 l3 l4 l5 l6 l7 : Option Value) (x : Int32) (q : Nat) (st : List Value) (σ : dS), den mX2_doAll 2 [l0, l1, l2, l3, l4, l5, l6, l7] (.int x :: .ref q :: st) σ = (dput σ q 1 3 (.int x)).bind fun τ => den mX2_doAll 5 [l0, l1, l2, l3, l4, l5, l6, l7] st τ) ∧
  (∀ (l1 l2 l3 l4 l5 l6 l7 : Option Value) (x : Nat) (st : List Value) (σ : dS), den mX2_doAll 5 [some (.ref x), l1, l2, l3, l4, l5, l6, l7] st σ = den mX2_doAll 6 [some (.ref x), l1, l2, l3, l4, l5, l6, l7] (.ref x :: st) σ) ∧
  (∀ (l0 l1 l2 l3 l4 l5 l6 l7 : Option Value) (st : List Value) (σ : dS), den mX2_doAll 6 [l0, l1, l2, l3, l4, l5, l6, l7] st σ = den mX2_doAll 7 [l0, l1, l2, l3, l4, l5, l6, l7] (.int (nI 0) :: st) σ) ∧
  (∀ (l0 l1 l2 l3 l4 l5 l6 l7 : Option Value) (x : Int32) (q : Nat) (st : List Value) (σ : dS), den mX2_doAll 7 [l0, l1, l2, l3, l4, l5, l6, l7] (.int x :: .ref q :: st) σ = (dput σ q 1 4 (.int x)).bind fun τ => den mX2_doAll 10 [l0, l1, l2, l3, l4, l5, l6, l7] st τ) ∧
  (∀ (l1 l2 l3 l4 l5 l6 l7 : Option Value) (x : Nat) (st : List Value) (σ : dS), den mX2_doAll 10 [some (.ref x), l1, l2, l3, l4, l5, l6, l7] st σ = den mX2_doAll 11 [some (.ref x), l1, l2, l3, l4, l5, l6, l7] (.ref x :: st) σ) ∧
  (∀ (l0 l1 l2 l3 l4 l5 l6 l7 : Option Value) (st : List Value) (σ : dS), den mX2_doAll 11 [l0, l1, l2, l3, l4, l5, l6, l7] st σ = den mX2_doAll 13 [l0, l1, l2, l3, l4, l5, l6, l7] (.int ((-4)) :: st) σ) ∧
  (∀ (l0 l1 l2 l3 l4 l5 l6 l7 : Option Value) (x : Int32) (q : Nat) (st : List Value) (σ : dS), den mX2_doAll 13 [l0, l1, l2, l3, l4, l5, l6, l7] (.int x :: .ref q :: st) σ = (dput σ q 1 5 (.int x)).bind fun τ => den mX2_doAll 16 [l0, l1, l2, l3, l4, l5, l6, l7] st τ) ∧
  (∀ (l1 l2 l3 l4 l5 l6 l7 : Option Value) (x : Nat) (st : List Value) (σ : dS), den mX2_doAll 16 [some (.ref x), l1, l2, l3, l4, l5, l6, l7] st σ = den mX2_doAll 17 [some (.ref x), l1, l2, l3, l4, l5, l6, l7] (.ref x :: st) σ) ∧
  (∀ (l0 l1 l2 l3 l4 l5 l6 l7 : Option Value) (st : List Value) (σ : dS), den mX2_doAll 17 [l0, l1, l2, l3, l4, l5, l6, l7] st σ = den mX2_doAll 18 [l0, l1, l2, l3, l4, l5, l6, l7] (.int (nI 1) :: st) σ) ∧
  (∀ (l0 l1 l2 l3 l4 l5 l6 l7 : Option Value) (x : Int32) (q : Nat) (st : List Value) (σ : dS), den mX2_doAll 18 [l0, l1, l2, l3, l4, l5, l6, l7] (.int x :: .ref q :: st) σ = (dput σ q 1 1 (.int x)).bind fun τ => den mX2_doAll 21 [l0, l1, l2, l3, l4, l5, l6, l7] st τ) ∧
  (∀ (l1 l2 l3 l4 l5 l6 l7 : Option Value) (x : Nat) (st : List Value) (σ : dS), den mX2_doAll 21 [some (.ref x), l1, l2, l3, l4, l5, l6, l7] st σ = den mX2_doAll 22 [some (.ref x), l1, l2, l3, l4, l5, l6, l7] (.ref x :: st) σ) ∧
  (∀ (l0 l1 l2 l3 l4 l5 l6 l7 : Option Value) (st : List Value) (σ : dS), den mX2_doAll 22 [l0, l1, l2, l3, l4, l5, l6, l7] st σ = den mX2_doAll 23 [l0, l1, l2, l3, l4, l5, l6, l7] (.int (nI 0) :: st) σ) ∧
  (∀ (l0 l1 l2 l3 l4 l5 l6 l7 : Option Value) (x : Int32) (q : Nat) (st : List Value) (σ : dS), den mX2_doAll 23 [l0, l1, l2, l3, l4, l5, l6, l7] (.int x :: .ref q :: st) σ = (dput σ q 1 2 (.int x)).bind fun τ => den mX2_doAll 26 [l0, l1, l2, l3, l4, l5, l6, l7] st τ) ∧
  (∀ (l0 l1 l2 l3 l4 l5 l6 l7 : Option Value) (st : List Value) (σ : dS), den mX2_doAll 26 [l0, l1, l2, l3, l4, l5, l6, l7] st σ = den mX2_doAll 27 [l0, l1, l2, l3, l4, l5, l6, l7] (.int (nI 0) :: st) σ) ∧
  (∀ (l0 l1 l3 l4 l5 l6 l7 : Option Value) (x : Int32) (y : Nat) (st : List Value) (σ : dS), den mX2_doAll 27 [l0, l1, some (.ref y), l3, l4, l5, l6, l7] (.int x :: st) σ = den mX2_doAll 28 [l0, l1, some (.ref y), some (.int x), l4, l5, l6, l7] st σ) ∧
  (∀ (l0 l1 l2 l3 l4 l5 l6 l7 : Option Value) (st : List Value) (σ : dS), den mX2_doAll 28 [l0, l1, l2, l3, l4, l5, l6, l7] st σ = den mX2_doAll 29 [l0, l1, l2, l3, l4, l5, l6, l7] (.int (nI 0) :: st) σ) ∧
  (∀ (l0 l1 l2 l4 l5 l6 l7 : Option Value) (x : Int32) (y : Int32) (st : List Value) (σ : dS), den mX2_doAll 29 [l0, l1, l2, some (.int y), l4, l5, l6, l7] (.int x :: st) σ = den mX2_doAll 31 [l0, l1, l2, some (.int y), some (.int x), l5, l6, l7] st σ) ∧
  (∀ (l0 l2 l3 l4 l5 l6 l7 : Option Value) (x : Nat) (st : List Value) (σ : dS), den mX2_doAll 33 [l0, some (.ref x), l2, l3, l4, l5, l6, l7] st σ = den mX2_doAll 34 [l0, some (.ref x), l2, l3, l4, l5, l6, l7] (.ref x :: st) σ) ∧
  (∀ (l0 l1 l2 l3 l4 l5 l6 l7 : Option Value) (q : Nat) (st : List Value) (σ : dS), den mX2_doAll 34 [l0, l1, l2, l3, l4, l5, l6, l7] (.ref q :: st) σ = (dget σ q 2 7).bind fun v => den mX2_doAll 37 [l0, l1, l2, l3, l4, l5, l6, l7] (v :: st) σ) ∧
  (∀ (l0 l1 l2 l3 l4 l5 l6 l7 : Option Value) (x y : Int32) (st : List Value) (σ : dS), den mX2_doAll 37 [l0, l1, l2, l3, l4, l5, l6, l7] (.int y :: .int x :: st) σ = if x < y then den mX2_doAll 40 [l0, l1, l2, l3, l4, l5, l6, l7] st σ else den mX2_doAll 198 [l0, l1, l2, l3, l4, l5, l6, l7] st σ) ∧
  (∀ (l1 l2 l3 l4 l5 l6 l7 : Option Value) (x : Nat) (st : List Value) (σ : dS), den mX2_doAll 40 [some (.ref x), l1, l2, l3, l4, l5, l6, l7] st σ = den mX2_doAll 41 [some (.ref x), l1, l2, l3, l4, l5, l6, l7] (.ref x :: st) σ) ∧
  (∀ (l0 l1 l2 l3 l4 l5 l6 l7 : Option Value) (q : Nat) (st : List Value) (σ : dS), den mX2_doAll 41 [l0, l1, l2, l3, l4, l5, l6, l7] (.ref q :: st) σ = (dget σ q 1 5).bind fun v => den mX2_doAll 44 [l0, l1, l2, l3, l4, l5, l6, l7] (v :: st) σ) ∧
  (∀ (l0 l1 l2 l3 l4 l5 l6 l7 : Option Value) (st : List Value) (σ : dS), den mX2_doAll 44 [l0, l1, l2, l3, l4, l5, l6, l7] st σ = den mX2_doAll 46 [l0, l1, l2, l3, l4, l5, l6, l7] (.int ((-4)) :: st) σ) ∧
  (∀ (l0 l1 l2 l3 l4 l5 l6 l7 : Option Value) (x y : Int32) (st : List Value) (σ : dS), den mX2_doAll 46 [l0, l1, l2, l3, l4, l5, l6, l7] (.int y :: .int x :: st) σ = if x = y then den mX2_doAll 49 [l0, l1, l2, l3, l4, l5, l6, l7] st σ else den mX2_doAll 198 [l0, l1, l2, l3, l4, l5, l6, l7] st σ) ∧
  (∀ (l0 l2 l3 l4 l5 l6 l7 : Option Value) (x : Nat) (st : List Value) (σ : dS), den mX2_doAll 49 [l0, some (.ref x), l2, l3, l4, l5, l6, l7] st σ = den mX2_doAll 50 [l0, some (.ref x), l2, l3, l4, l5, l6, l7] (.ref x :: st) σ) ∧
  (∀ (l0 l1 l2 l3 l4 l5 l6 l7 : Option Value) (q : Nat) (st : List Value) (σ : dS), den mX2_doAll 50 [l0, l1, l2, l3, l4, l5, l6, l7] (.ref q :: st) σ = (dget σ q 2 4).bind fun v => den mX2_doAll 53 [l0, l1, l2, l3, l4, l5, l6, l7] (v :: st) σ) ∧
  (∀ (l0 l1 l2 l3 l5 l6 l7 : Option Value) (x : Int32) (st : List Value) (σ : dS), den mX2_doAll 53 [l0, l1, l2, l3, some (.int x), l5, l6, l7] st σ = den mX2_doAll 55 [l0, l1, l2, l3, some (.int x), l5, l6, l7] (.int x :: st) σ) ∧
  (∀ (l0 l1 l2 l3 l4 l5 l6 l7 : Option Value) (q : Nat) (i : Int32) (st : List Value) (σ : dS), den mX2_doAll 55 [l0, l1, l2, l3, l4, l5, l6, l7] (.int i :: .ref q :: st) σ = if q ≤ dN then (dald σ q 0 i).bind (fun v => den mX2_doAll 56 [l0, l1, l2, l3, l4, l5, l6, l7] (.int v :: st) σ) else none) ∧
  (∀ (l0 l1 l2 l3 l5 l6 l7 : Option Value) (x : Int32) (y : Int32) (st : List Value) (σ : dS), den mX2_doAll 56 [l0, l1, l2, l3, some (.int y), l5, l6, l7] (.int x :: st) σ = den mX2_doAll 58 [l0, l1, l2, l3, some (.int y), some (.int x), l6, l7] st σ) ∧
  (∀ (l1 l2 l3 l4 l5 l6 l7 : Option Value) (x : Nat) (st : List Value) (σ : dS), den mX2_doAll 58 [some (.ref x), l1, l2, l3, l4, l5, l6, l7] st σ = den mX2_doAll 59 [some (.ref x), l1, l2, l3, l4, l5, l6, l7] (.ref x :: st) σ) ∧
  (∀ (l0 l1 l2 l3 l4 l5 l6 l7 : Option Value) (q : Nat) (st : List Value) (σ : dS), den mX2_doAll 59 [l0, l1, l2, l3, l4, l5, l6, l7] (.ref q :: st) σ = (dget σ q 1 1).bind fun v => den mX2_doAll 62 [l0, l1, l2, l3, l4, l5, l6, l7] (v :: st) σ) ∧
  (∀ (l0 l1 l2 l3 l4 l6 l7 : Option Value) (x : Int32) (st : List Value) (σ : dS), den mX2_doAll 62 [l0, l1, l2, l3, l4, some (.int x), l6, l7] st σ = den mX2_doAll 64 [l0, l1, l2, l3, l4, some (.int x), l6, l7] (.int x :: st) σ) ∧
  (∀ (l0 l1 l2 l3 l4 l5 l6 l7 : Option Value) (x y : Int32) (st : List Value) (σ : dS), den mX2_doAll 64 [l0, l1, l2, l3, l4, l5, l6, l7] (.int y :: .int x :: st) σ = den mX2_doAll 65 [l0, l1, l2, l3, l4, l5, l6, l7] (.int (x >>> (y &&& 31)) :: st) σ) ∧
  (∀ (l0 l1 l2 l3 l4 l5 l6 l7 : Option Value) (st : List Value) (σ : dS), den mX2_doAll 65 [l0, l1, l2, l3, l4, l5, l6, l7] st σ = den mX2_doAll 66 [l0, l1, l2, l3, l4, l5, l6, l7] (.int (nI 1) :: st) σ) ∧
  (∀ (l0 l1 l2 l3 l4 l5 l6 l7 : Option Value) (x y : Int32) (st : List Value) (σ : dS), den mX2_doAll 66 [l0, l1, l2, l3, l4, l5, l6, l7] (.int y :: .int x :: st) σ = den mX2_doAll 67 [l0, l1, l2, l3, l4, l5, l6, l7] (.int (x &&& y) :: st) σ) ∧
  (∀ (l0 l1 l2 l3 l4 l5 l6 l7 : Option Value) (st : List Value) (σ : dS), den mX2_doAll 67 [l0, l1, l2, l3, l4, l5, l6, l7] st σ = den mX2_doAll 68 [l0, l1, l2, l3, l4, l5, l6, l7] (.int (nI 1) :: st) σ) ∧
  (∀ (l0 l1 l2 l3 l4 l5 l6 l7 : Option Value) (x y : Int32) (st : List Value) (σ : dS), den mX2_doAll 68 [l0, l1, l2, l3, l4, l5, l6, l7] (.int y :: .int x :: st) σ = if x = y then den mX2_doAll 71 [l0, l1, l2, l3, l4, l5, l6, l7] st σ else den mX2_doAll 75 [l0, l1, l2, l3, l4, l5, l6, l7] st σ) ∧
  (∀ (l0 l1 l2 l3 l4 l5 l6 l7 : Option Value) (st : List Value) (σ : dS), den mX2_doAll 71 [l0, l1, l2, l3, l4, l5, l6, l7] st σ = den mX2_doAll 72 [l0, l1, l2, l3, l4, l5, l6, l7] (.int (nI 1) :: st) σ) :=
  ⟨fun l1 l2 l3 l4 l5 l6 l7 x st σ => dn_aload_n eX2_doAll dX2_doAll_0 rfl,
  fun l0 l1 l2 l3 l4 l5 l6 l7 st σ => dn_iconst eX2_doAll dX2_doAll_1 kc_iconst_0,
  fun l0 l1 l2 l3 l4 l5 l6 l7 x q st σ => dn_putfield (f := (1, 3, 221)) (ty := .int) eX2_doAll dX2_doAll_2 (by decide +kernel) (by decide +kernel) rfl,
  fun l1 l2 l3 l4 l5 l6 l7 x st σ => dn_aload_n eX2_doAll dX2_doAll_5 rfl,
  fun l0 l1 l2 l3 l4 l5 l6 l7 st σ => dn_iconst eX2_doAll dX2_doAll_6 kc_iconst_0,
  fun l0 l1 l2 l3 l4 l5 l6 l7 x q st σ => dn_putfield (f := (1, 4, 223)) (ty := .int) eX2_doAll dX2_doAll_7 (by decide +kernel) (by decide +kernel) rfl,
  fun l1 l2 l3 l4 l5 l6 l7 x st σ => dn_aload_n eX2_doAll dX2_doAll_10 rfl,
  fun l0 l1 l2 l3 l4 l5 l6 l7 st σ => dn_bipush eX2_doAll dX2_doAll_11 kc_bipush_m4,
  fun l0 l1 l2 l3 l4 l5 l6 l7 x q st σ => dn_putfield (f := (1, 5, 225)) (ty := .int) eX2_doAll dX2_doAll_13 (by decide +kernel) (by decide +kernel) rfl,
  fun l1 l2 l3 l4 l5 l6 l7 x st σ => dn_aload_n eX2_doAll dX2_doAll_16 rfl,
  fun l0 l1 l2 l3 l4 l5 l6 l7 st σ => dn_iconst eX2_doAll dX2_doAll_17 kc_iconst_1,
  fun l0 l1 l2 l3 l4 l5 l6 l7 x q st σ => dn_putfield (f := (1, 1, 219)) (ty := .int) eX2_doAll dX2_doAll_18 (by decide +kernel) (by decide +kernel) rfl,
  fun l1 l2 l3 l4 l5 l6 l7 x st σ => dn_aload_n eX2_doAll dX2_doAll_21 rfl,
  fun l0 l1 l2 l3 l4 l5 l6 l7 st σ => dn_iconst eX2_doAll dX2_doAll_22 kc_iconst_0,
  fun l0 l1 l2 l3 l4 l5 l6 l7 x q st σ => dn_putfield (f := (1, 2, 220)) (ty := .int) eX2_doAll dX2_doAll_23 (by decide +kernel) (by decide +kernel) rfl,
  fun l0 l1 l2 l3 l4 l5 l6 l7 st σ => dn_iconst eX2_doAll dX2_doAll_26 kc_iconst_0,
  fun l0 l1 l3 l4 l5 l6 l7 x y st σ => dn_istore_n eX2_doAll dX2_doAll_27 rfl,
  fun l0 l1 l2 l3 l4 l5 l6 l7 st σ => dn_iconst eX2_doAll dX2_doAll_28 kc_iconst_0,
  fun l0 l1 l2 l4 l5 l6 l7 x y st σ => dn_istore eX2_doAll dX2_doAll_29 rfl,
  fun l0 l2 l3 l4 l5 l6 l7 x st σ => dn_aload_n eX2_doAll dX2_doAll_33 rfl,
  fun l0 l1 l2 l3 l4 l5 l6 l7 q st σ => dn_getfield (f := (2, 7, 111)) eX2_doAll dX2_doAll_34 (by decide +kernel),
  fun l0 l1 l2 l3 l4 l5 l6 l7 x y st σ => dn_icmp_ge eX2_doAll dX2_doAll_37 (by decide),
  fun l1 l2 l3 l4 l5 l6 l7 x st σ => dn_aload_n eX2_doAll dX2_doAll_40 rfl,
  fun l0 l1 l2 l3 l4 l5 l6 l7 q st σ => dn_getfield (f := (1, 5, 225)) eX2_doAll dX2_doAll_41 (by decide +kernel),
  fun l0 l1 l2 l3 l4 l5 l6 l7 st σ => dn_bipush eX2_doAll dX2_doAll_44 kc_bipush_m4,
  fun l0 l1 l2 l3 l4 l5 l6 l7 x y st σ => dn_icmp_ne eX2_doAll dX2_doAll_46 (by decide),
  fun l0 l2 l3 l4 l5 l6 l7 x st σ => dn_aload_n eX2_doAll dX2_doAll_49 rfl,
  fun l0 l1 l2 l3 l4 l5 l6 l7 q st σ => dn_getfield (f := (2, 4, 102)) eX2_doAll dX2_doAll_50 (by decide +kernel),
  fun l0 l1 l2 l3 l5 l6 l7 x st σ => dn_iload eX2_doAll dX2_doAll_53 rfl,
  fun l0 l1 l2 l3 l4 l5 l6 l7 q i st σ => dn_iaload eX2_doAll dX2_doAll_55,
  fun l0 l1 l2 l3 l5 l6 l7 x y st σ => dn_istore eX2_doAll dX2_doAll_56 rfl,
  fun l1 l2 l3 l4 l5 l6 l7 x st σ => dn_aload_n eX2_doAll dX2_doAll_58 rfl,
  fun l0 l1 l2 l3 l4 l5 l6 l7 q st σ => dn_getfield (f := (1, 1, 219)) eX2_doAll dX2_doAll_59 (by decide +kernel),
  fun l0 l1 l2 l3 l4 l6 l7 x st σ => dn_iload eX2_doAll dX2_doAll_62 rfl,
  fun l0 l1 l2 l3 l4 l5 l6 l7 x y st σ => dn_ishr eX2_doAll dX2_doAll_64,
  fun l0 l1 l2 l3 l4 l5 l6 l7 st σ => dn_iconst eX2_doAll dX2_doAll_65 kc_iconst_1,
  fun l0 l1 l2 l3 l4 l5 l6 l7 x y st σ => dn_iand eX2_doAll dX2_doAll_66,
  fun l0 l1 l2 l3 l4 l5 l6 l7 st σ => dn_iconst eX2_doAll dX2_doAll_67 kc_iconst_1,
  fun l0 l1 l2 l3 l4 l5 l6 l7 x y st σ => dn_icmp_ne eX2_doAll dX2_doAll_68 (by decide),
  fun l0 l1 l2 l3 l4 l5 l6 l7 st σ => dn_iconst eX2_doAll dX2_doAll_71 kc_iconst_1⟩
set_option maxRecDepth 20000 in
theorem SX2_doAll_1 : (∀ (l0 l1 l2 l3 l4 l5 l6 l7 : Option Value) (st : List Value) (σ : dS), den mX2_doAll 72 [l0, l1, l2, l3, l4, l5, l6, l7] st σ = den mX2_doAll 76 [l0, l1, l2, l3, l4, l5, l6, l7] st σ) ∧
  (∀ (l0 l1 l2 l3 l4 l5 l6 l7 : Option Value) (st : List Value) (σ : dS), den mX2_doAll 75 [l0, l1, l2, l3, l4, l5, l6, l7] st σ = den mX2_doAll 76 [l0, l1, l2, l3, l4, l5, l6, l7] (.int (nI 0) :: st) σ) ∧
  (∀ (l0 l1 l2 l3 l4 l6 l7 : Option Value) (x : Int32) (y : Int32) (st : List Value) (σ : dS), den mX2_doAll 76 [l0, l1, l2, l3, l4, some (.int y), l6, l7] (.int x :: st) σ = den mX2_doAll 78 [l0, l1, l2, l3, l4, some (.int y), some (.int x), l7] st σ) ∧
  (∀ (l0 l1 l2 l3 l4 l5 l7 : Option Value) (x : Int32) (st : List Value) (σ : dS), den mX2_doAll 78 [l0, l1, l2, l3, l4, l5, some (.int x), l7] st σ = den mX2_doAll 80 [l0, l1, l2, l3, l4, l5, some (.int x), l7] (.int x :: st) σ) ∧
  (∀ (l0 l1 l2 l3 l4 l5 l6 l7 : Option Value) (x : Int32) (st : List Value) (σ : dS), den mX2_doAll 80 [l0, l1, l2, l3, l4, l5, l6, l7] (.int x :: st) σ = if x = 0 then den mX2_doAll 83 [l0, l1, l2, l3, l4, l5, l6, l7] st σ else den mX2_doAll 96 [l0, l1, l2, l3, l4, l5, l6, l7] st σ) ∧
  (∀ (l1 l2 l3 l4 l5 l6 l7 : Option Value) (x : Nat) (st : List Value) (σ : dS), den mX2_doAll 83 [some (.ref x), l1, l2, l3, l4, l5, l6, l7] st σ = den mX2_doAll 84 [some (.ref x), l1, l2, l3, l4, l5, l6, l7] (.ref x :: st) σ) ∧
  (∀ (l0 l1 l2 l3 l4 l5 l6 l7 : Option Value) (q : Nat) (st : List Value) (σ : dS), den mX2_doAll 84 [l0, l1, l2, l3, l4, l5, l6, l7] (.ref q :: st) σ = (dget σ q 1 2).bind fun v => den mX2_doAll 87 [l0, l1, l2, l3, l4, l5, l6, l7] (v :: st) σ) ∧
  (∀ (l0 l1 l2 l3 l4 l6 l7 : Option Value) (x : Int32) (st : List Value) (σ : dS), den mX2_doAll 87 [l0, l1, l2, l3, l4, some (.int x), l6, l7] st σ = den mX2_doAll 89 [l0, l1, l2, l3, l4, some (.int x), l6, l7] (.int x :: st) σ) ∧
  (∀ (l0 l1 l2 l3 l4 l5 l6 l7 : Option Value) (x y : Int32) (st : List Value) (σ : dS), den mX2_doAll 89 [l0, l1, l2, l3, l4, l5, l6, l7] (.int y :: .int x :: st) σ = den mX2_doAll 90 [l0, l1, l2, l3, l4, l5, l6, l7] (.int (x >>> (y &&& 31)) :: st) σ) ∧
  (∀ (l0 l1 l2 l3 l4 l5 l6 l7 : Option Value) (st : List Value) (σ : dS), den mX2_doAll 90 [l0, l1, l2, l3, l4, l5, l6, l7] st σ = den mX2_doAll 91 [l0, l1, l2, l3, l4, l5, l6, l7] (.int (nI 1) :: st) σ) ∧
  (∀ (l0 l1 l2 l3 l4 l5 l6 l7 : Option Value) (x y : Int32) (st : List Value) (σ : dS), den mX2_doAll 91 [l0, l1, l2, l3, l4, l5, l6, l7] (.int y :: .int x :: st) σ = den mX2_doAll 92 [l0, l1, l2, l3, l4, l5, l6, l7] (.int (x &&& y) :: st) σ) ∧
  (∀ (l0 l1 l2 l3 l4 l5 l6 l7 : Option Value) (st : List Value) (σ : dS), den mX2_doAll 92 [l0, l1, l2, l3, l4, l5, l6, l7] st σ = den mX2_doAll 93 [l0, l1, l2, l3, l4, l5, l6, l7] (.int (nI 1) :: st) σ) ∧
  (∀ (l0 l1 l2 l3 l4 l5 l6 l7 : Option Value) (x y : Int32) (st : List Value) (σ : dS), den mX2_doAll 93 [l0, l1, l2, l3, l4, l5, l6, l7] (.int y :: .int x :: st) σ = if x = y then den mX2_doAll 96 [l0, l1, l2, l3, l4, l5, l6, l7] st σ else den mX2_doAll 100 [l0, l1, l2, l3, l4, l5, l6, l7] st σ) ∧
  (∀ (l0 l1 l2 l3 l4 l5 l6 l7 : Option Value) (st : List Value) (σ : dS), den mX2_doAll 96 [l0, l1, l2, l3, l4, l5, l6, l7] st σ = den mX2_doAll 97 [l0, l1, l2, l3, l4, l5, l6, l7] (.int (nI 1) :: st) σ) ∧
  (∀ (l0 l1 l2 l3 l4 l5 l6 l7 : Option Value) (st : List Value) (σ : dS), den mX2_doAll 97 [l0, l1, l2, l3, l4, l5, l6, l7] st σ = den mX2_doAll 101 [l0, l1, l2, l3, l4, l5, l6, l7] st σ) ∧
  (∀ (l0 l1 l2 l3 l4 l5 l6 l7 : Option Value) (st : List Value) (σ : dS), den mX2_doAll 100 [l0, l1, l2, l3, l4, l5, l6, l7] st σ = den mX2_doAll 101 [l0, l1, l2, l3, l4, l5, l6, l7] (.int (nI 0) :: st) σ) ∧
  (∀ (l0 l1 l2 l3 l4 l5 l7 : Option Value) (x : Int32) (y : Int32) (st : List Value) (σ : dS), den mX2_doAll 101 [l0, l1, l2, l3, l4, l5, some (.int y), l7] (.int x :: st) σ = den mX2_doAll 103 [l0, l1, l2, l3, l4, l5, some (.int y), some (.int x)] st σ) ∧
  (∀ (l0 l2 l3 l4 l5 l6 l7 : Option Value) (x : Nat) (st : List Value) (σ : dS), den mX2_doAll 103 [l0, some (.ref x), l2, l3, l4, l5, l6, l7] st σ = den mX2_doAll 104 [l0, some (.ref x), l2, l3, l4, l5, l6, l7] (.ref x :: st) σ) ∧
  (∀ (l0 l1 l2 l3 l4 l5 l6 l7 : Option Value) (q : Nat) (st : List Value) (σ : dS), den mX2_doAll 104 [l0, l1, l2, l3, l4, l5, l6, l7] (.ref q :: st) σ = (dget σ q 2 0).bind fun v => den mX2_doAll 107 [l0, l1, l2, l3, l4, l5, l6, l7] (v :: st) σ) ∧
  (∀ (l0 l1 l2 l3 l5 l6 l7 : Option Value) (x : Int32) (st : List Value) (σ : dS), den mX2_doAll 107 [l0, l1, l2, l3, some (.int x), l5, l6, l7] st σ = den mX2_doAll 109 [l0, l1, l2, l3, some (.int x), l5, l6, l7] (.int x :: st) σ) ∧
  (∀ (l0 l1 l2 l3 l4 l5 l6 l7 : Option Value) (q : Nat) (i : Int32) (st : List Value) (σ : dS), den mX2_doAll 109 [l0, l1, l2, l3, l4, l5, l6, l7] (.int i :: .ref q :: st) σ = if q ≤ dN then (dald σ q 0 i).bind (fun v => den mX2_doAll 110 [l0, l1, l2, l3, l4, l5, l6, l7] (.int v :: st) σ) else none) ∧
  (∀ (l0 l1 l2 l3 l4 l5 l6 l7 : Option Value) (st : List Value) (σ : dS), den mX2_doAll 110 [l0, l1, l2, l3, l4, l5, l6, l7] st σ = den mX2_doAll 111 [l0, l1, l2, l3, l4, l5, l6, l7] (.int (nI 5) :: st) σ) ∧
  (∀ (l0 l1 l2 l3 l4 l5 l6 l7 : Option Value) (x y : Int32) (st : List Value) (σ : dS), den mX2_doAll 111 [l0, l1, l2, l3, l4, l5, l6, l7] (.int y :: .int x :: st) σ = if x = y then den mX2_doAll 114 [l0, l1, l2, l3, l4, l5, l6, l7] st σ else den mX2_doAll 155 [l0, l1, l2, l3, l4, l5, l6, l7] st σ) ∧
  (∀ (l1 l2 l3 l4 l5 l6 l7 : Option Value) (x : Nat) (st : List Value) (σ : dS), den mX2_doAll 114 [some (.ref x), l1, l2, l3, l4, l5, l6, l7] st σ = den mX2_doAll 115 [some (.ref x), l1, l2, l3, l4, l5, l6, l7] (.ref x :: st) σ) ∧
  (∀ (l0 l1 l2 l4 l5 l6 l7 : Option Value) (x : Int32) (st : List Value) (σ : dS), den mX2_doAll 115 [l0, l1, l2, some (.int x), l4, l5, l6, l7] st σ = den mX2_doAll 116 [l0, l1, l2, some (.int x), l4, l5, l6, l7] (.int x :: st) σ) ∧
  (∀ (l0 l1 l3 l4 l5 l6 l7 : Option Value) (x : Nat) (st : List Value) (σ : dS), den mX2_doAll 116 [l0, l1, some (.ref x), l3, l4, l5, l6, l7] st σ = den mX2_doAll 117 [l0, l1, some (.ref x), l3, l4, l5, l6, l7] (.ref x :: st) σ) ∧
  (∀ (l0 l1 l2 l3 l4 l5 l6 l7 : Option Value) (q : Nat) (st : List Value) (σ : dS), den mX2_doAll 117 [l0, l1, l2, l3, l4, l5, l6, l7] (.ref q :: st) σ = (dget σ q 0 3).bind fun v => den mX2_doAll 120 [l0, l1, l2, l3, l4, l5, l6, l7] (v :: st) σ) ∧
  (∀ (l0 l1 l2 l4 l5 l6 l7 : Option Value) (x : Int32) (st : List Value) (σ : dS), den mX2_doAll 120 [l0, l1, l2, some (.int x), l4, l5, l6, l7] st σ = den mX2_doAll 121 [l0, l1, l2, some (.int x), l4, l5, l6, l7] (.int x :: st) σ) ∧
  (∀ (l0 l1 l2 l3 l4 l5 l6 l7 : Option Value) (q : Nat) (i : Int32) (st : List Value) (σ : dS), den mX2_doAll 121 [l0, l1, l2, l3, l4, l5, l6, l7] (.int i :: .ref q :: st) σ = (dbld σ q i).bind fun v => den mX2_doAll 122 [l0, l1, l2, l3, l4, l5, l6, l7] (.int v :: st) σ) ∧
  (∀ (l0 l1 l2 l3 l4 l5 l6 : Option Value) (x : Int32) (st : List Value) (σ : dS), den mX2_doAll 122 [l0, l1, l2, l3, l4, l5, l6, some (.int x)] st σ = den mX2_doAll 124 [l0, l1, l2, l3, l4, l5, l6, some (.int x)] (.int x :: st) σ) ∧
  (∀ (l0 l1 l2 l3 l4 l5 l7 : Option Value) (x : Int32) (st : List Value) (σ : dS), den mX2_doAll 124 [l0, l1, l2, l3, l4, l5, some (.int x), l7] st σ = den mX2_doAll 126 [l0, l1, l2, l3, l4, l5, some (.int x), l7] (.int x :: st) σ) ∧
  (∀ (l1 l2 l3 l4 l5 l6 l7 : Option Value) (x : Nat) (st : List Value) (σ : dS), den mX2_doAll 126 [some (.ref x), l1, l2, l3, l4, l5, l6, l7] st σ = den mX2_doAll 127 [some (.ref x), l1, l2, l3, l4, l5, l6, l7] (.ref x :: st) σ) ∧
  (∀ (l0 l1 l2 l3 l4 l5 l6 l7 : Option Value) (q : Nat) (st : List Value) (σ : dS), den mX2_doAll 127 [l0, l1, l2, l3, l4, l5, l6, l7] (.ref q :: st) σ = (dget σ q 1 0).bind fun v => den mX2_doAll 130 [l0, l1, l2, l3, l4, l5, l6, l7] (v :: st) σ) ∧
  (∀ (l0 l2 l3 l4 l5 l6 l7 : Option Value) (x : Nat) (st : List Value) (σ : dS), den mX2_doAll 130 [l0, some (.ref x), l2, l3, l4, l5, l6, l7] st σ = den mX2_doAll 131 [l0, some (.ref x), l2, l3, l4, l5, l6, l7] (.ref x :: st) σ) ∧
  (∀ (l0 l1 l2 l3 l4 l5 l6 l7 : Option Value) (q : Nat) (st : List Value) (σ : dS), den mX2_doAll 131 [l0, l1, l2, l3, l4, l5, l6, l7] (.ref q :: st) σ = (dget σ q 2 1).bind fun v => den mX2_doAll 134 [l0, l1, l2, l3, l4, l5, l6, l7] (v :: st) σ) ∧
  (∀ (l0 l1 l2 l3 l5 l6 l7 : Option Value) (x : Int32) (st : List Value) (σ : dS), den mX2_doAll 134 [l0, l1, l2, l3, some (.int x), l5, l6, l7] st σ = den mX2_doAll 136 [l0, l1, l2, l3, some (.int x), l5, l6, l7] (.int x :: st) σ) ∧
  (∀ (l0 l1 l2 l3 l4 l5 l6 l7 : Option Value) (q : Nat) (i : Int32) (st : List Value) (σ : dS), den mX2_doAll 136 [l0, l1, l2, l3, l4, l5, l6, l7] (.int i :: .ref q :: st) σ = if q ≤ dN then (dald σ q 0 i).bind (fun v => den mX2_doAll 137 [l0, l1, l2, l3, l4, l5, l6, l7] (.int v :: st) σ) else none) ∧
  (∀ (l0 l1 l2 l3 l4 l5 l6 l7 : Option Value) (q : Nat) (i : Int32) (st : List Value) (σ : dS), den mX2_doAll 137 [l0, l1, l2, l3, l4, l5, l6, l7] (.int i :: .ref q :: st) σ = if q ≤ dN then (dald σ q 0 i).bind (fun v => den mX2_doAll 138 [l0, l1, l2, l3, l4, l5, l6, l7] (.int v :: st) σ) else none) ∧
  (∀ (l0 l1 l2 l3 l4 l5 l6 l7 : Option Value) (x : Int32) (st : List Value) (σ : dS), den mX2_doAll 138 [l0, l1, l2, l3, l4, l5, l6, l7] (.int x :: st) σ = if 0 < x then den mX2_doAll 141 [l0, l1, l2, l3, l4, l5, l6, l7] st σ else den mX2_doAll 145 [l0, l1, l2, l3, l4, l5, l6, l7] st σ) ∧
  (∀ (l0 l1 l2 l3 l4 l5 l6 l7 : Option Value) (st : List Value) (σ : dS), den mX2_doAll 141 [l0, l1, l2, l3, l4, l5, l6, l7] st σ = den mX2_doAll 142 [l0, l1, l2, l3, l4, l5, l6, l7] (.int (nI 1) :: st) σ) :=
  ⟨fun l0 l1 l2 l3 l4 l5 l6 l7 st σ => dn_goto eX2_doAll dX2_doAll_72 (by decide),
  fun l0 l1 l2 l3 l4 l5 l6 l7 st σ => dn_iconst eX2_doAll dX2_doAll_75 kc_iconst_0,
  fun l0 l1 l2 l3 l4 l6 l7 x y st σ => dn_istore eX2_doAll dX2_doAll_76 rfl,
  fun l0 l1 l2 l3 l4 l5 l7 x st σ => dn_iload eX2_doAll dX2_doAll_78 rfl,
  fun l0 l1 l2 l3 l4 l5 l6 l7 x st σ => dn_if_ne eX2_doAll dX2_doAll_80 (by decide),
  fun l1 l2 l3 l4 l5 l6 l7 x st σ => dn_aload_n eX2_doAll dX2_doAll_83 rfl,
  fun l0 l1 l2 l3 l4 l5 l6 l7 q st σ => dn_getfield (f := (1, 2, 220)) eX2_doAll dX2_doAll_84 (by decide +kernel),
  fun l0 l1 l2 l3 l4 l6 l7 x st σ => dn_iload eX2_doAll dX2_doAll_87 rfl,
  fun l0 l1 l2 l3 l4 l5 l6 l7 x y st σ => dn_ishr eX2_doAll dX2_doAll_89,
  fun l0 l1 l2 l3 l4 l5 l6 l7 st σ => dn_iconst eX2_doAll dX2_doAll_90 kc_iconst_1,
  fun l0 l1 l2 l3 l4 l5 l6 l7 x y st σ => dn_iand eX2_doAll dX2_doAll_91,
  fun l0 l1 l2 l3 l4 l5 l6 l7 st σ => dn_iconst eX2_doAll dX2_doAll_92 kc_iconst_1,
  fun l0 l1 l2 l3 l4 l5 l6 l7 x y st σ => dn_icmp_ne eX2_doAll dX2_doAll_93 (by decide),
  fun l0 l1 l2 l3 l4 l5 l6 l7 st σ => dn_iconst eX2_doAll dX2_doAll_96 kc_iconst_1,
  fun l0 l1 l2 l3 l4 l5 l6 l7 st σ => dn_goto eX2_doAll dX2_doAll_97 (by decide),
  fun l0 l1 l2 l3 l4 l5 l6 l7 st σ => dn_iconst eX2_doAll dX2_doAll_100 kc_iconst_0,
  fun l0 l1 l2 l3 l4 l5 l7 x y st σ => dn_istore eX2_doAll dX2_doAll_101 rfl,
  fun l0 l2 l3 l4 l5 l6 l7 x st σ => dn_aload_n eX2_doAll dX2_doAll_103 rfl,
  fun l0 l1 l2 l3 l4 l5 l6 l7 q st σ => dn_getfield (f := (2, 0, 86)) eX2_doAll dX2_doAll_104 (by decide +kernel),
  fun l0 l1 l2 l3 l5 l6 l7 x st σ => dn_iload eX2_doAll dX2_doAll_107 rfl,
  fun l0 l1 l2 l3 l4 l5 l6 l7 q i st σ => dn_iaload eX2_doAll dX2_doAll_109,
  fun l0 l1 l2 l3 l4 l5 l6 l7 st σ => dn_iconst eX2_doAll dX2_doAll_110 kc_iconst_5,
  fun l0 l1 l2 l3 l4 l5 l6 l7 x y st σ => dn_icmp_ne eX2_doAll dX2_doAll_111 (by decide),
  fun l1 l2 l3 l4 l5 l6 l7 x st σ => dn_aload_n eX2_doAll dX2_doAll_114 rfl,
  fun l0 l1 l2 l4 l5 l6 l7 x st σ => dn_iload_n eX2_doAll dX2_doAll_115 rfl,
  fun l0 l1 l3 l4 l5 l6 l7 x st σ => dn_aload_n eX2_doAll dX2_doAll_116 rfl,
  fun l0 l1 l2 l3 l4 l5 l6 l7 q st σ => dn_getfield (f := (0, 3, 198)) eX2_doAll dX2_doAll_117 (by decide +kernel),
  fun l0 l1 l2 l4 l5 l6 l7 x st σ => dn_iload_n eX2_doAll dX2_doAll_120 rfl,
  fun l0 l1 l2 l3 l4 l5 l6 l7 q i st σ => dn_baload eX2_doAll dX2_doAll_121,
  fun l0 l1 l2 l3 l4 l5 l6 x st σ => dn_iload eX2_doAll dX2_doAll_122 rfl,
  fun l0 l1 l2 l3 l4 l5 l7 x st σ => dn_iload eX2_doAll dX2_doAll_124 rfl,
  fun l1 l2 l3 l4 l5 l6 l7 x st σ => dn_aload_n eX2_doAll dX2_doAll_126 rfl,
  fun l0 l1 l2 l3 l4 l5 l6 l7 q st σ => dn_getfield (f := (1, 0, 217)) eX2_doAll dX2_doAll_127 (by decide +kernel),
  fun l0 l2 l3 l4 l5 l6 l7 x st σ => dn_aload_n eX2_doAll dX2_doAll_130 rfl,
  fun l0 l1 l2 l3 l4 l5 l6 l7 q st σ => dn_getfield (f := (2, 1, 90)) eX2_doAll dX2_doAll_131 (by decide +kernel),
  fun l0 l1 l2 l3 l5 l6 l7 x st σ => dn_iload eX2_doAll dX2_doAll_134 rfl,
  fun l0 l1 l2 l3 l4 l5 l6 l7 q i st σ => dn_iaload eX2_doAll dX2_doAll_136,
  fun l0 l1 l2 l3 l4 l5 l6 l7 q i st σ => dn_iaload eX2_doAll dX2_doAll_137,
  fun l0 l1 l2 l3 l4 l5 l6 l7 x st σ => dn_if_le eX2_doAll dX2_doAll_138 (by decide),
  fun l0 l1 l2 l3 l4 l5 l6 l7 st σ => dn_iconst eX2_doAll dX2_doAll_141 kc_iconst_1⟩
set_option maxRecDepth 20000 in
theorem SX2_doAll_2 : (∀ (l0 l1 l2 l3 l4 l5 l6 l7 : Option Value) (st : List Value) (σ : dS), den mX2_doAll 142 [l0, l1, l2, l3, l4, l5, l6, l7] st σ = den mX2_doAll 146 [l0, l1, l2, l3, l4, l5, l6, l7] st σ) ∧
  (∀ (l0 l1 l2 l3 l4 l5 l6 l7 : Option Value) (st : List Value) (σ : dS), den mX2_doAll 145 [l0, l1, l2, l3, l4, l5, l6, l7] st σ = den mX2_doAll 146 [l0, l1, l2, l3, l4, l5, l6, l7] (.int (nI 0) :: st) σ) ∧
  (∀ (l0 l1 l2 l3 l4 l5 l6 l7 : Option Value) (a0 : Int32) (a1 : Int32) (a2 : Int32) (a3 : Int32) (a4 : Int32) (q : Nat) (σ : dS), den mX2_doAll 146 [l0, l1, l2, l3, l4, l5, l6, l7] [.int a4, .int a3, .int a2, .int a1, .int a0, .ref q] σ = if disO σ q 1 = true then ((dcall mX2_goOverIf [.ref q, .int a0, .int a1, .int a2, .int a3, .int a4] σ).bind fun r => den mX2_doAll 149 [l0, l1, l2, l3, l4, l5, l6, l7] (r.1.toList ++ []) r.2) else none) ∧
  (∀ (l0 l1 l4 l5 l6 l7 : Option Value) (x : Int32) (y : Nat) (st : List Value) (σ : dS), den mX2_doAll 149 [l0, l1, some (.ref y), some (.int x), l4, l5, l6, l7] st σ = den mX2_doAll 152 [l0, l1, some (.ref y), some (.int (x + nI 1)), l4, l5, l6, l7] st σ) ∧
  (∀ (l0 l1 l2 l3 l4 l5 l6 l7 : Option Value) (st : List Value) (σ : dS), den mX2_doAll 152 [l0, l1, l2, l3, l4, l5, l6, l7] st σ = den mX2_doAll 192 [l0, l1, l2, l3, l4, l5, l6, l7] st σ) ∧
  (∀ (l1 l2 l3 l4 l5 l6 l7 : Option Value) (x : Nat) (st : List Value) (σ : dS), den mX2_doAll 155 [some (.ref x), l1, l2, l3, l4, l5, l6, l7] st σ = den mX2_doAll 156 [some (.ref x), l1, l2, l3, l4, l5, l6, l7] (.ref x :: st) σ) ∧
  (∀ (l0 l1 l2 l3 l4 l5 l6 l7 : Option Value) (x : Nat) (st : List Value) (σ : dS), den mX2_doAll 156 [l0, l1, l2, l3, l4, l5, l6, l7] (.ref x :: st) σ = den mX2_doAll 157 [l0, l1, l2, l3, l4, l5, l6, l7] (.ref x :: .ref x :: st) σ) ∧
  (∀ (l0 l1 l2 l3 l4 l5 l6 l7 : Option Value) (q : Nat) (st : List Value) (σ : dS), den mX2_doAll 157 [l0, l1, l2, l3, l4, l5, l6, l7] (.ref q :: st) σ = (dget σ q 1 4).bind fun v => den mX2_doAll 160 [l0, l1, l2, l3, l4, l5, l6, l7] (v :: st) σ) ∧
  (∀ (l0 l1 l2 l3 l4 l5 l6 : Option Value) (x : Int32) (st : List Value) (σ : dS), den mX2_doAll 160 [l0, l1, l2, l3, l4, l5, l6, some (.int x)] st σ = den mX2_doAll 162 [l0, l1, l2, l3, l4, l5, l6, some (.int x)] (.int x :: st) σ) ∧
  (∀ (l0 l1 l2 l3 l4 l5 l6 l7 : Option Value) (x : Int32) (st : List Value) (σ : dS), den mX2_doAll 162 [l0, l1, l2, l3, l4, l5, l6, l7] (.int x :: st) σ = if x = 0 then den mX2_doAll 175 [l0, l1, l2, l3, l4, l5, l6, l7] st σ else den mX2_doAll 165 [l0, l1, l2, l3, l4, l5, l6, l7] st σ) ∧
  (∀ (l0 l1 l3 l4 l5 l6 l7 : Option Value) (x : Nat) (st : List Value) (σ : dS), den mX2_doAll 165 [l0, l1, some (.ref x), l3, l4, l5, l6, l7] st σ = den mX2_doAll 166 [l0, l1, some (.ref x), l3, l4, l5, l6, l7] (.ref x :: st) σ) ∧
  (∀ (l0 l1 l2 l3 l4 l5 l6 l7 : Option Value) (q : Nat) (st : List Value) (σ : dS), den mX2_doAll 166 [l0, l1, l2, l3, l4, l5, l6, l7] (.ref q :: st) σ = (dget σ q 0 0).bind fun v => den mX2_doAll 169 [l0, l1, l2, l3, l4, l5, l6, l7] (v :: st) σ) ∧
  (∀ (l0 l1 l2 l3 l5 l6 l7 : Option Value) (x : Int32) (st : List Value) (σ : dS), den mX2_doAll 169 [l0, l1, l2, l3, some (.int x), l5, l6, l7] st σ = den mX2_doAll 171 [l0, l1, l2, l3, some (.int x), l5, l6, l7] (.int x :: st) σ) ∧
  (∀ (l0 l1 l2 l3 l4 l5 l6 l7 : Option Value) (q : Nat) (i : Int32) (st : List Value) (σ : dS), den mX2_doAll 171 [l0, l1, l2, l3, l4, l5, l6, l7] (.int i :: .ref q :: st) σ = if q ≤ dN then (dald σ q 0 i).bind (fun v => den mX2_doAll 172 [l0, l1, l2, l3, l4, l5, l6, l7] (.int v :: st) σ) else none) ∧
  (∀ (l0 l1 l2 l3 l4 l5 l6 l7 : Option Value) (st : List Value) (σ : dS), den mX2_doAll 172 [l0, l1, l2, l3, l4, l5, l6, l7] st σ = den mX2_doAll 176 [l0, l1, l2, l3, l4, l5, l6, l7] st σ) ∧
  (∀ (l0 l1 l2 l3 l4 l5 l6 l7 : Option Value) (st : List Value) (σ : dS), den mX2_doAll 175 [l0, l1, l2, l3, l4, l5, l6, l7] st σ = den mX2_doAll 176 [l0, l1, l2, l3, l4, l5, l6, l7] (.int (nI 0) :: st) σ) ∧
  (∀ (l0 l1 l2 l3 l4 l5 l6 l7 : Option Value) (x y : Int32) (st : List Value) (σ : dS), den mX2_doAll 176 [l0, l1, l2, l3, l4, l5, l6, l7] (.int y :: .int x :: st) σ = den mX2_doAll 177 [l0, l1, l2, l3, l4, l5, l6, l7] (.int (x + y) :: st) σ) ∧
  (∀ (l0 l1 l2 l3 l4 l5 l6 l7 : Option Value) (x : Int32) (q : Nat) (st : List Value) (σ : dS), den mX2_doAll 177 [l0, l1, l2, l3, l4, l5, l6, l7] (.int x :: .ref q :: st) σ = (dput σ q 1 4 (.int x)).bind fun τ => den mX2_doAll 180 [l0, l1, l2, l3, l4, l5, l6, l7] st τ) ∧
  (∀ (l0 l1 l2 l3 l4 l5 l7 : Option Value) (x : Int32) (st : List Value) (σ : dS), den mX2_doAll 180 [l0, l1, l2, l3, l4, l5, some (.int x), l7] st σ = den mX2_doAll 182 [l0, l1, l2, l3, l4, l5, some (.int x), l7] (.int x :: st) σ) ∧
  (∀ (l0 l1 l2 l3 l4 l5 l6 l7 : Option Value) (x : Int32) (st : List Value) (σ : dS), den mX2_doAll 182 [l0, l1, l2, l3, l4, l5, l6, l7] (.int x :: st) σ = if x = 0 then den mX2_doAll 192 [l0, l1, l2, l3, l4, l5, l6, l7] st σ else den mX2_doAll 185 [l0, l1, l2, l3, l4, l5, l6, l7] st σ) ∧
  (∀ (l1 l2 l3 l4 l5 l6 l7 : Option Value) (x : Nat) (st : List Value) (σ : dS), den mX2_doAll 185 [some (.ref x), l1, l2, l3, l4, l5, l6, l7] st σ = den mX2_doAll 186 [some (.ref x), l1, l2, l3, l4, l5, l6, l7] (.ref x :: st) σ) ∧
  (∀ (l0 l2 l3 l4 l5 l6 l7 : Option Value) (x : Nat) (st : List Value) (σ : dS), den mX2_doAll 186 [l0, some (.ref x), l2, l3, l4, l5, l6, l7] st σ = den mX2_doAll 187 [l0, some (.ref x), l2, l3, l4, l5, l6, l7] (.ref x :: st) σ) ∧
  (∀ (l0 l1 l2 l3 l5 l6 l7 : Option Value) (x : Int32) (st : List Value) (σ : dS), den mX2_doAll 187 [l0, l1, l2, l3, some (.int x), l5, l6, l7] st σ = den mX2_doAll 189 [l0, l1, l2, l3, some (.int x), l5, l6, l7] (.int x :: st) σ) ∧
  (∀ (l0 l1 l2 l3 l4 l5 l6 l7 : Option Value) (a0 : Nat) (a1 : Int32) (q : Nat) (σ : dS), den mX2_doAll 189 [l0, l1, l2, l3, l4, l5, l6, l7] [.int a1, .ref a0, .ref q] σ = if disO σ q 1 = true then ((dcall mX2_doOne [.ref q, .ref a0, .int a1] σ).bind fun r => den mX2_doAll 192 [l0, l1, l2, l3, l4, l5, l6, l7] (r.1.toList ++ []) r.2) else none) ∧
  (∀ (l0 l1 l2 l5 l6 l7 : Option Value) (x : Int32) (y : Int32) (st : List Value) (σ : dS), den mX2_doAll 192 [l0, l1, l2, some (.int y), some (.int x), l5, l6, l7] st σ = den mX2_doAll 195 [l0, l1, l2, some (.int y), some (.int (x + nI 1)), l5, l6, l7] st σ) ∧
  (∀ (l0 l1 l2 l3 l4 l5 l6 l7 : Option Value) (st : List Value) (σ : dS), den mX2_doAll 195 [l0, l1, l2, l3, l4, l5, l6, l7] st σ = den mX2_doAll 31 [l0, l1, l2, l3, l4, l5, l6, l7] st σ) ∧
  (∀ (l0 l1 l2 l3 l4 l5 l6 l7 : Option Value) (σ : dS), den mX2_doAll 198 [l0, l1, l2, l3, l4, l5, l6, l7] [] σ = some (none, σ)) :=
  ⟨fun l0 l1 l2 l3 l4 l5 l6 l7 st σ => dn_goto eX2_doAll dX2_doAll_142 (by decide),
  fun l0 l1 l2 l3 l4 l5 l6 l7 st σ => dn_iconst eX2_doAll dX2_doAll_145 kc_iconst_0,
  fun l0 l1 l2 l3 l4 l5 l6 l7 a0 a1 a2 a3 a4 q σ => rX2_doAll_146 l0 l1 l2 l3 l4 l5 l6 l7 a0 a1 a2 a3 a4 q σ,
  fun l0 l1 l4 l5 l6 l7 x y st σ => dn_iinc (v := nI 1) eX2_doAll dX2_doAll_149 rfl kc_iconst_1 rfl,
  fun l0 l1 l2 l3 l4 l5 l6 l7 st σ => dn_goto eX2_doAll dX2_doAll_152 (by decide),
  fun l1 l2 l3 l4 l5 l6 l7 x st σ => dn_aload_n eX2_doAll dX2_doAll_155 rfl,
  fun l0 l1 l2 l3 l4 l5 l6 l7 x st σ => dn_dup eX2_doAll dX2_doAll_156 rfl,
  fun l0 l1 l2 l3 l4 l5 l6 l7 q st σ => dn_getfield (f := (1, 4, 223)) eX2_doAll dX2_doAll_157 (by decide +kernel),
  fun l0 l1 l2 l3 l4 l5 l6 x st σ => dn_iload eX2_doAll dX2_doAll_160 rfl,
  fun l0 l1 l2 l3 l4 l5 l6 l7 x st σ => dn_if_eq eX2_doAll dX2_doAll_162 (by decide),
  fun l0 l1 l3 l4 l5 l6 l7 x st σ => dn_aload_n eX2_doAll dX2_doAll_165 rfl,
  fun l0 l1 l2 l3 l4 l5 l6 l7 q st σ => dn_getfield (f := (0, 0, 191)) eX2_doAll dX2_doAll_166 (by decide +kernel),
  fun l0 l1 l2 l3 l5 l6 l7 x st σ => dn_iload eX2_doAll dX2_doAll_169 rfl,
  fun l0 l1 l2 l3 l4 l5 l6 l7 q i st σ => dn_iaload eX2_doAll dX2_doAll_171,
  fun l0 l1 l2 l3 l4 l5 l6 l7 st σ => dn_goto eX2_doAll dX2_doAll_172 (by decide),
  fun l0 l1 l2 l3 l4 l5 l6 l7 st σ => dn_iconst eX2_doAll dX2_doAll_175 kc_iconst_0,
  fun l0 l1 l2 l3 l4 l5 l6 l7 x y st σ => dn_iadd eX2_doAll dX2_doAll_176,
  fun l0 l1 l2 l3 l4 l5 l6 l7 x q st σ => dn_putfield (f := (1, 4, 223)) (ty := .int) eX2_doAll dX2_doAll_177 (by decide +kernel) (by decide +kernel) rfl,
  fun l0 l1 l2 l3 l4 l5 l7 x st σ => dn_iload eX2_doAll dX2_doAll_180 rfl,
  fun l0 l1 l2 l3 l4 l5 l6 l7 x st σ => dn_if_eq eX2_doAll dX2_doAll_182 (by decide),
  fun l1 l2 l3 l4 l5 l6 l7 x st σ => dn_aload_n eX2_doAll dX2_doAll_185 rfl,
  fun l0 l2 l3 l4 l5 l6 l7 x st σ => dn_aload_n eX2_doAll dX2_doAll_186 rfl,
  fun l0 l1 l2 l3 l5 l6 l7 x st σ => dn_iload eX2_doAll dX2_doAll_187 rfl,
  fun l0 l1 l2 l3 l4 l5 l6 l7 a0 a1 q σ => rX2_doAll_189 l0 l1 l2 l3 l4 l5 l6 l7 a0 a1 q σ,
  fun l0 l1 l2 l5 l6 l7 x y st σ => dn_iinc (v := nI 1) eX2_doAll dX2_doAll_192 rfl kc_iconst_1 rfl,
  fun l0 l1 l2 l3 l4 l5 l6 l7 st σ => dn_goto eX2_doAll dX2_doAll_195 (by decide),
  fun l0 l1 l2 l3 l4 l5 l6 l7 σ => dn_return eX2_doAll dX2_doAll_198 rfl⟩

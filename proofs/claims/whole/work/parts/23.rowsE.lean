theorem CX7_in (a0 : Int64) (a1 : Int64) (a2 : Int64) (σ : dS) : dcall mX7_in [.long a0, .long a1, .long a2] σ = den mX7_in 0 [some (.long a0), none, some (.long a1), none, some (.long a2), none] [] σ := dcall_den (by decide) rfl
set_option maxRecDepth 20000 in
theorem SX7_in : (∀ (l1 l2 l3 l4 l5 : Option Value) (x : Int64) (st : List Value) (σ : dS), den mX7_in 0 [some (.long x), l1, l2, l3, l4, l5] st σ = den mX7_in 1 [some (.long x), l1, l2, l3, l4, l5] (.long x :: st) σ) ∧
  (∀ (l0 l1 l3 l4 l5 : Option Value) (x : Int64) (st : List Value) (σ : dS), den mX7_in 1 [l0, l1, some (.long x), l3, l4, l5] st σ = den mX7_in 2 [l0, l1, some (.long x), l3, l4, l5] (.long x :: st) σ) ∧
  (∀ (l0 l1 l2 l3 l4 l5 : Option Value) (x y : Int64) (st : List Value) (σ : dS), den mX7_in 2 [l0, l1, l2, l3, l4, l5] (.long y :: .long x :: st) σ = den mX7_in 3 [l0, l1, l2, l3, l4, l5] (.int (lg_cmp x y) :: st) σ) ∧
  (∀ (l0 l1 l2 l3 l4 l5 : Option Value) (x : Int32) (st : List Value) (σ : dS), den mX7_in 3 [l0, l1, l2, l3, l4, l5] (.int x :: st) σ = if x < 0 then den mX7_in 17 [l0, l1, l2, l3, l4, l5] st σ else den mX7_in 6 [l0, l1, l2, l3, l4, l5] st σ) ∧
  (∀ (l1 l2 l3 l4 l5 : Option Value) (x : Int64) (st : List Value) (σ : dS), den mX7_in 6 [some (.long x), l1, l2, l3, l4, l5] st σ = den mX7_in 7 [some (.long x), l1, l2, l3, l4, l5] (.long x :: st) σ) ∧
  (∀ (l0 l1 l2 l3 l5 : Option Value) (x : Int64) (st : List Value) (σ : dS), den mX7_in 7 [l0, l1, l2, l3, some (.long x), l5] st σ = den mX7_in 9 [l0, l1, l2, l3, some (.long x), l5] (.long x :: st) σ) ∧
  (∀ (l0 l1 l2 l3 l4 l5 : Option Value) (x y : Int64) (st : List Value) (σ : dS), den mX7_in 9 [l0, l1, l2, l3, l4, l5] (.long y :: .long x :: st) σ = den mX7_in 10 [l0, l1, l2, l3, l4, l5] (.int (lg_cmp x y) :: st) σ) ∧
  (∀ (l0 l1 l2 l3 l4 l5 : Option Value) (x : Int32) (st : List Value) (σ : dS), den mX7_in 10 [l0, l1, l2, l3, l4, l5] (.int x :: st) σ = if 0 < x then den mX7_in 17 [l0, l1, l2, l3, l4, l5] st σ else den mX7_in 13 [l0, l1, l2, l3, l4, l5] st σ) ∧
  (∀ (l0 l1 l2 l3 l4 l5 : Option Value) (st : List Value) (σ : dS), den mX7_in 13 [l0, l1, l2, l3, l4, l5] st σ = den mX7_in 14 [l0, l1, l2, l3, l4, l5] (.int (nI 1) :: st) σ) ∧
  (∀ (l0 l1 l2 l3 l4 l5 : Option Value) (st : List Value) (σ : dS), den mX7_in 14 [l0, l1, l2, l3, l4, l5] st σ = den mX7_in 18 [l0, l1, l2, l3, l4, l5] st σ) ∧
  (∀ (l0 l1 l2 l3 l4 l5 : Option Value) (st : List Value) (σ : dS), den mX7_in 17 [l0, l1, l2, l3, l4, l5] st σ = den mX7_in 18 [l0, l1, l2, l3, l4, l5] (.int (nI 0) :: st) σ) ∧
  (∀ (l0 l1 l2 l3 l4 l5 : Option Value) (v : Int32) (σ : dS), den mX7_in 18 [l0, l1, l2, l3, l4, l5] [.int v] σ = if v = 0 ∨ v = 1 then some (some (.int v), σ) else none) :=
  ⟨fun l1 l2 l3 l4 l5 x st σ => dn_lload_n eX7_in dX7_in_0 rfl,
  fun l0 l1 l3 l4 l5 x st σ => dn_lload_n eX7_in dX7_in_1 rfl,
  fun l0 l1 l2 l3 l4 l5 x y st σ => dn_lcmp eX7_in dX7_in_2,
  fun l0 l1 l2 l3 l4 l5 x st σ => dn_if_lt eX7_in dX7_in_3 (by decide),
  fun l1 l2 l3 l4 l5 x st σ => dn_lload_n eX7_in dX7_in_6 rfl,
  fun l0 l1 l2 l3 l5 x st σ => dn_lload eX7_in dX7_in_7 rfl,
  fun l0 l1 l2 l3 l4 l5 x y st σ => dn_lcmp eX7_in dX7_in_9,
  fun l0 l1 l2 l3 l4 l5 x st σ => dn_if_gt eX7_in dX7_in_10 (by decide),
  fun l0 l1 l2 l3 l4 l5 st σ => dn_iconst eX7_in dX7_in_13 kc_iconst_1,
  fun l0 l1 l2 l3 l4 l5 st σ => dn_goto eX7_in dX7_in_14 (by decide),
  fun l0 l1 l2 l3 l4 l5 st σ => dn_iconst eX7_in dX7_in_17 kc_iconst_0,
  fun l0 l1 l2 l3 l4 l5 v σ => dn_zreturn eX7_in dX7_in_18 rfl⟩
theorem CX7_flag (a0 : Int32) (σ : dS) : dcall mX7_flag [.int a0] σ = den mX7_flag 0 [some (.int a0)] [] σ := dcall_den (by decide) rfl
set_option maxRecDepth 20000 in
theorem SX7_flag : (∀ (x : Int32) (st : List Value) (σ : dS), den mX7_flag 0 [some (.int x)] st σ = den mX7_flag 1 [some (.int x)] (.int x :: st) σ) ∧
  (∀ (l0 : Option Value) (x : Int32) (st : List Value) (σ : dS), den mX7_flag 1 [l0] (.int x :: st) σ = if x = 0 then den mX7_flag 8 [l0] st σ else den mX7_flag 4 [l0] st σ) ∧
  (∀ (l0 : Option Value) (st : List Value) (σ : dS), den mX7_flag 4 [l0] st σ = den mX7_flag 5 [l0] (.int (nI 1) :: st) σ) ∧
  (∀ (l0 : Option Value) (st : List Value) (σ : dS), den mX7_flag 5 [l0] st σ = den mX7_flag 9 [l0] st σ) ∧
  (∀ (l0 : Option Value) (st : List Value) (σ : dS), den mX7_flag 8 [l0] st σ = den mX7_flag 9 [l0] (.int (nI 0) :: st) σ) ∧
  (∀ (l0 : Option Value) (v : Int32) (σ : dS), den mX7_flag 9 [l0] [.int v] σ = some (some (.int v), σ)) :=
  ⟨fun x st σ => dn_iload_n eX7_flag dX7_flag_0 rfl,
  fun l0 x st σ => dn_if_eq eX7_flag dX7_flag_1 (by decide),
  fun l0 st σ => dn_iconst eX7_flag dX7_flag_4 kc_iconst_1,
  fun l0 st σ => dn_goto eX7_flag dX7_flag_5 (by decide),
  fun l0 st σ => dn_iconst eX7_flag dX7_flag_8 kc_iconst_0,
  fun l0 v σ => dn_ireturn eX7_flag dX7_flag_9 rfl⟩
theorem CX7_firstDraft (a0 : Nat) (σ : dS) : dcall mX7_firstDraft [.ref a0] σ = den mX7_firstDraft 0 [some (.ref a0), none] [] σ := dcall_den (by decide) rfl
theorem hX7_firstDraft_2 (l0 : Option Value) (x : Int32) (st : List Value) (σ : dS) : den mX7_firstDraft 2 [l0, some (.int x)] st σ = den mX7_firstDraft 3 [l0, some (.int x)] (.int x :: st) σ := dn_iload_n eX7_firstDraft dX7_firstDraft_2 rfl
theorem hX7_firstDraft_34 (l0 : Option Value) (x : Int32) (st : List Value) (σ : dS) : den mX7_firstDraft 34 [l0, some (.int x)] st σ = den mX7_firstDraft 35 [l0, some (.int x)] (.int x :: st) σ := dn_iload_n eX7_firstDraft dX7_firstDraft_34 rfl
set_option maxRecDepth 20000 in
theorem SX7_firstDraft : (∀ (l0 l1 : Option Value) (st : List Value) (σ : dS), den mX7_firstDraft 0 [l0, l1] st σ = den mX7_firstDraft 1 [l0, l1] (.int (nI 0) :: st) σ) ∧
  (∀ (l1 : Option Value) (x : Int32) (y : Nat) (st : List Value) (σ : dS), den mX7_firstDraft 1 [some (.ref y), l1] (.int x :: st) σ = den mX7_firstDraft 2 [some (.ref y), some (.int x)] st σ) ∧
  (∀ (l0 l1 : Option Value) (st : List Value) (σ : dS), den mX7_firstDraft 3 [l0, l1] st σ = den mX7_firstDraft 6 [l0, l1] (.int (nI 128) :: st) σ) ∧
  (∀ (l0 l1 : Option Value) (x y : Int32) (st : List Value) (σ : dS), den mX7_firstDraft 6 [l0, l1] (.int y :: .int x :: st) σ = if x < y then den mX7_firstDraft 9 [l0, l1] st σ else den mX7_firstDraft 22 [l0, l1] st σ) ∧
  (∀ (l1 : Option Value) (x : Nat) (st : List Value) (σ : dS), den mX7_firstDraft 9 [some (.ref x), l1] st σ = den mX7_firstDraft 10 [some (.ref x), l1] (.ref x :: st) σ) ∧
  (∀ (l0 l1 : Option Value) (q : Nat) (st : List Value) (σ : dS), den mX7_firstDraft 10 [l0, l1] (.ref q :: st) σ = (dget σ q 6 3).bind fun v => den mX7_firstDraft 13 [l0, l1] (v :: st) σ) ∧
  (∀ (l0 : Option Value) (x : Int32) (st : List Value) (σ : dS), den mX7_firstDraft 13 [l0, some (.int x)] st σ = den mX7_firstDraft 14 [l0, some (.int x)] (.int x :: st) σ) ∧
  (∀ (l0 l1 : Option Value) (st : List Value) (σ : dS), den mX7_firstDraft 14 [l0, l1] st σ = den mX7_firstDraft 15 [l0, l1] (.int (nI 0) :: st) σ) ∧
  (∀ (l0 l1 : Option Value) (q : Nat) (i x : Int32) (st : List Value) (σ : dS), den mX7_firstDraft 15 [l0, l1] (.int x :: .int i :: .ref q :: st) σ = (dast σ q 0 i x).bind fun τ => den mX7_firstDraft 16 [l0, l1] st τ) ∧
  (∀ (x : Int32) (y : Nat) (st : List Value) (σ : dS), den mX7_firstDraft 16 [some (.ref y), some (.int x)] st σ = den mX7_firstDraft 19 [some (.ref y), some (.int (x + nI 1))] st σ) ∧
  (∀ (l0 l1 : Option Value) (st : List Value) (σ : dS), den mX7_firstDraft 19 [l0, l1] st σ = den mX7_firstDraft 2 [l0, l1] st σ) ∧
  (∀ (l1 : Option Value) (x : Nat) (st : List Value) (σ : dS), den mX7_firstDraft 22 [some (.ref x), l1] st σ = den mX7_firstDraft 23 [some (.ref x), l1] (.ref x :: st) σ) ∧
  (∀ (l0 l1 : Option Value) (q : Nat) (st : List Value) (σ : dS), den mX7_firstDraft 23 [l0, l1] (.ref q :: st) σ = (dget σ q 6 3).bind fun v => den mX7_firstDraft 26 [l0, l1] (v :: st) σ) ∧
  (∀ (l0 l1 : Option Value) (st : List Value) (σ : dS), den mX7_firstDraft 26 [l0, l1] st σ = den mX7_firstDraft 28 [l0, l1] (.int (nI 121) :: st) σ) ∧
  (∀ (l0 l1 : Option Value) (st : List Value) (σ : dS), den mX7_firstDraft 28 [l0, l1] st σ = den mX7_firstDraft 31 [l0, l1] (.int (nI 255) :: st) σ) ∧
  (∀ (l0 l1 : Option Value) (q : Nat) (i x : Int32) (st : List Value) (σ : dS), den mX7_firstDraft 31 [l0, l1] (.int x :: .int i :: .ref q :: st) σ = (dast σ q 0 i x).bind fun τ => den mX7_firstDraft 32 [l0, l1] st τ) ∧
  (∀ (l0 l1 : Option Value) (st : List Value) (σ : dS), den mX7_firstDraft 32 [l0, l1] st σ = den mX7_firstDraft 33 [l0, l1] (.int (nI 0) :: st) σ) ∧
  (∀ (l1 : Option Value) (x : Int32) (y : Nat) (st : List Value) (σ : dS), den mX7_firstDraft 33 [some (.ref y), l1] (.int x :: st) σ = den mX7_firstDraft 34 [some (.ref y), some (.int x)] st σ) ∧
  (∀ (l0 l1 : Option Value) (st : List Value) (σ : dS), den mX7_firstDraft 35 [l0, l1] st σ = den mX7_firstDraft 37 [l0, l1] (.int (nI 6) :: st) σ) ∧
  (∀ (l0 l1 : Option Value) (x y : Int32) (st : List Value) (σ : dS), den mX7_firstDraft 37 [l0, l1] (.int y :: .int x :: st) σ = if x < y then den mX7_firstDraft 40 [l0, l1] st σ else den mX7_firstDraft 56 [l0, l1] st σ) ∧
  (∀ (l1 : Option Value) (x : Nat) (st : List Value) (σ : dS), den mX7_firstDraft 40 [some (.ref x), l1] st σ = den mX7_firstDraft 41 [some (.ref x), l1] (.ref x :: st) σ) ∧
  (∀ (l0 l1 : Option Value) (q : Nat) (st : List Value) (σ : dS), den mX7_firstDraft 41 [l0, l1] (.ref q :: st) σ = (dget σ q 6 3).bind fun v => den mX7_firstDraft 44 [l0, l1] (v :: st) σ) ∧
  (∀ (l0 l1 : Option Value) (st : List Value) (σ : dS), den mX7_firstDraft 44 [l0, l1] st σ = den mX7_firstDraft 46 [l0, l1] (.int (nI 122) :: st) σ) ∧
  (∀ (l0 : Option Value) (x : Int32) (st : List Value) (σ : dS), den mX7_firstDraft 46 [l0, some (.int x)] st σ = den mX7_firstDraft 47 [l0, some (.int x)] (.int x :: st) σ) ∧
  (∀ (l0 l1 : Option Value) (x y : Int32) (st : List Value) (σ : dS), den mX7_firstDraft 47 [l0, l1] (.int y :: .int x :: st) σ = den mX7_firstDraft 48 [l0, l1] (.int (x + y) :: st) σ) ∧
  (∀ (l0 l1 : Option Value) (st : List Value) (σ : dS), den mX7_firstDraft 48 [l0, l1] st σ = den mX7_firstDraft 49 [l0, l1] (.int (nI 2) :: st) σ) ∧
  (∀ (l0 l1 : Option Value) (q : Nat) (i x : Int32) (st : List Value) (σ : dS), den mX7_firstDraft 49 [l0, l1] (.int x :: .int i :: .ref q :: st) σ = (dast σ q 0 i x).bind fun τ => den mX7_firstDraft 50 [l0, l1] st τ) ∧
  (∀ (x : Int32) (y : Nat) (st : List Value) (σ : dS), den mX7_firstDraft 50 [some (.ref y), some (.int x)] st σ = den mX7_firstDraft 53 [some (.ref y), some (.int (x + nI 1))] st σ) ∧
  (∀ (l0 l1 : Option Value) (st : List Value) (σ : dS), den mX7_firstDraft 53 [l0, l1] st σ = den mX7_firstDraft 34 [l0, l1] st σ) ∧
  (∀ (l0 l1 : Option Value) (σ : dS), den mX7_firstDraft 56 [l0, l1] [] σ = some (none, σ)) :=
  ⟨fun l0 l1 st σ => dn_iconst eX7_firstDraft dX7_firstDraft_0 kc_iconst_0,
  fun l1 x y st σ => dn_istore_n eX7_firstDraft dX7_firstDraft_1 rfl,
  fun l0 l1 st σ => dn_sipush eX7_firstDraft dX7_firstDraft_3 kc_sipush_128,
  fun l0 l1 x y st σ => dn_icmp_ge eX7_firstDraft dX7_firstDraft_6 (by decide),
  fun l1 x st σ => dn_aload_n eX7_firstDraft dX7_firstDraft_9 rfl,
  fun l0 l1 q st σ => dn_getfield (f := (6, 3, 774)) eX7_firstDraft dX7_firstDraft_10 (by decide +kernel),
  fun l0 x st σ => dn_iload_n eX7_firstDraft dX7_firstDraft_13 rfl,
  fun l0 l1 st σ => dn_iconst eX7_firstDraft dX7_firstDraft_14 kc_iconst_0,
  fun l0 l1 q i x st σ => dn_iastore eX7_firstDraft dX7_firstDraft_15,
  fun x y st σ => dn_iinc (v := nI 1) eX7_firstDraft dX7_firstDraft_16 rfl kc_iconst_1 rfl,
  fun l0 l1 st σ => dn_goto eX7_firstDraft dX7_firstDraft_19 (by decide),
  fun l1 x st σ => dn_aload_n eX7_firstDraft dX7_firstDraft_22 rfl,
  fun l0 l1 q st σ => dn_getfield (f := (6, 3, 774)) eX7_firstDraft dX7_firstDraft_23 (by decide +kernel),
  fun l0 l1 st σ => dn_bipush eX7_firstDraft dX7_firstDraft_26 kc_bipush_121,
  fun l0 l1 st σ => dn_sipush eX7_firstDraft dX7_firstDraft_28 kc_sipush_255,
  fun l0 l1 q i x st σ => dn_iastore eX7_firstDraft dX7_firstDraft_31,
  fun l0 l1 st σ => dn_iconst eX7_firstDraft dX7_firstDraft_32 kc_iconst_0,
  fun l1 x y st σ => dn_istore_n eX7_firstDraft dX7_firstDraft_33 rfl,
  fun l0 l1 st σ => dn_bipush eX7_firstDraft dX7_firstDraft_35 kc_bipush_6,
  fun l0 l1 x y st σ => dn_icmp_ge eX7_firstDraft dX7_firstDraft_37 (by decide),
  fun l1 x st σ => dn_aload_n eX7_firstDraft dX7_firstDraft_40 rfl,
  fun l0 l1 q st σ => dn_getfield (f := (6, 3, 774)) eX7_firstDraft dX7_firstDraft_41 (by decide +kernel),
  fun l0 l1 st σ => dn_bipush eX7_firstDraft dX7_firstDraft_44 kc_bipush_122,
  fun l0 x st σ => dn_iload_n eX7_firstDraft dX7_firstDraft_46 rfl,
  fun l0 l1 x y st σ => dn_iadd eX7_firstDraft dX7_firstDraft_47,
  fun l0 l1 st σ => dn_iconst eX7_firstDraft dX7_firstDraft_48 kc_iconst_2,
  fun l0 l1 q i x st σ => dn_iastore eX7_firstDraft dX7_firstDraft_49,
  fun x y st σ => dn_iinc (v := nI 1) eX7_firstDraft dX7_firstDraft_50 rfl kc_iconst_1 rfl,
  fun l0 l1 st σ => dn_goto eX7_firstDraft dX7_firstDraft_53 (by decide),
  fun l0 l1 σ => dn_return eX7_firstDraft dX7_firstDraft_56 rfl⟩
theorem CX7_keepDraft (a0 : Nat) (σ : dS) : dcall mX7_keepDraft [.ref a0] σ = den mX7_keepDraft 0 [some (.ref a0), none] [] σ := dcall_den (by decide) rfl
theorem hX7_keepDraft_2 (l0 : Option Value) (x : Int32) (st : List Value) (σ : dS) : den mX7_keepDraft 2 [l0, some (.int x)] st σ = den mX7_keepDraft 3 [l0, some (.int x)] (.int x :: st) σ := dn_iload_n eX7_keepDraft dX7_keepDraft_2 rfl
set_option maxRecDepth 20000 in
theorem SX7_keepDraft : (∀ (l0 l1 : Option Value) (st : List Value) (σ : dS), den mX7_keepDraft 0 [l0, l1] st σ = den mX7_keepDraft 1 [l0, l1] (.int (nI 0) :: st) σ) ∧
  (∀ (l1 : Option Value) (x : Int32) (y : Nat) (st : List Value) (σ : dS), den mX7_keepDraft 1 [some (.ref y), l1] (.int x :: st) σ = den mX7_keepDraft 2 [some (.ref y), some (.int x)] st σ) ∧
  (∀ (l0 l1 : Option Value) (st : List Value) (σ : dS), den mX7_keepDraft 3 [l0, l1] st σ = den mX7_keepDraft 6 [l0, l1] (.int (nI 128) :: st) σ) ∧
  (∀ (l0 l1 : Option Value) (x y : Int32) (st : List Value) (σ : dS), den mX7_keepDraft 6 [l0, l1] (.int y :: .int x :: st) σ = if x < y then den mX7_keepDraft 9 [l0, l1] st σ else den mX7_keepDraft 27 [l0, l1] st σ) ∧
  (∀ (l1 : Option Value) (x : Nat) (st : List Value) (σ : dS), den mX7_keepDraft 9 [some (.ref x), l1] st σ = den mX7_keepDraft 10 [some (.ref x), l1] (.ref x :: st) σ) ∧
  (∀ (l0 l1 : Option Value) (q : Nat) (st : List Value) (σ : dS), den mX7_keepDraft 10 [l0, l1] (.ref q :: st) σ = (dget σ q 6 0).bind fun v => den mX7_keepDraft 13 [l0, l1] (v :: st) σ) ∧
  (∀ (l0 : Option Value) (x : Int32) (st : List Value) (σ : dS), den mX7_keepDraft 13 [l0, some (.int x)] st σ = den mX7_keepDraft 14 [l0, some (.int x)] (.int x :: st) σ) ∧
  (∀ (l1 : Option Value) (x : Nat) (st : List Value) (σ : dS), den mX7_keepDraft 14 [some (.ref x), l1] st σ = den mX7_keepDraft 15 [some (.ref x), l1] (.ref x :: st) σ) ∧
  (∀ (l0 l1 : Option Value) (q : Nat) (st : List Value) (σ : dS), den mX7_keepDraft 15 [l0, l1] (.ref q :: st) σ = (dget σ q 6 3).bind fun v => den mX7_keepDraft 18 [l0, l1] (v :: st) σ) ∧
  (∀ (l0 : Option Value) (x : Int32) (st : List Value) (σ : dS), den mX7_keepDraft 18 [l0, some (.int x)] st σ = den mX7_keepDraft 19 [l0, some (.int x)] (.int x :: st) σ) ∧
  (∀ (l0 l1 : Option Value) (q : Nat) (i : Int32) (st : List Value) (σ : dS), den mX7_keepDraft 19 [l0, l1] (.int i :: .ref q :: st) σ = if q ≤ dN then (dald σ q 0 i).bind (fun v => den mX7_keepDraft 20 [l0, l1] (.int v :: st) σ) else none) ∧
  (∀ (l0 l1 : Option Value) (q : Nat) (i x : Int32) (st : List Value) (σ : dS), den mX7_keepDraft 20 [l0, l1] (.int x :: .int i :: .ref q :: st) σ = (dast σ q 0 i x).bind fun τ => den mX7_keepDraft 21 [l0, l1] st τ) ∧
  (∀ (x : Int32) (y : Nat) (st : List Value) (σ : dS), den mX7_keepDraft 21 [some (.ref y), some (.int x)] st σ = den mX7_keepDraft 24 [some (.ref y), some (.int (x + nI 1))] st σ) ∧
  (∀ (l0 l1 : Option Value) (st : List Value) (σ : dS), den mX7_keepDraft 24 [l0, l1] st σ = den mX7_keepDraft 2 [l0, l1] st σ) ∧
  (∀ (l1 : Option Value) (x : Nat) (st : List Value) (σ : dS), den mX7_keepDraft 27 [some (.ref x), l1] st σ = den mX7_keepDraft 28 [some (.ref x), l1] (.ref x :: st) σ) ∧
  (∀ (l0 l1 : Option Value) (q : Nat) (st : List Value) (σ : dS), den mX7_keepDraft 28 [l0, l1] (.ref q :: st) σ = (dget σ q 6 2).bind fun v => den mX7_keepDraft 31 [l0, l1] (v :: st) σ) ∧
  (∀ (l0 l1 : Option Value) (st : List Value) (σ : dS), den mX7_keepDraft 31 [l0, l1] st σ = den mX7_keepDraft 32 [l0, l1] (.int (nI 0) :: st) σ) ∧
  (∀ (l0 l1 : Option Value) (st : List Value) (σ : dS), den mX7_keepDraft 32 [l0, l1] st σ = den mX7_keepDraft 33 [l0, l1] (.int (nI 0) :: st) σ) ∧
  (∀ (l0 l1 : Option Value) (q : Nat) (i x : Int32) (st : List Value) (σ : dS), den mX7_keepDraft 33 [l0, l1] (.int x :: .int i :: .ref q :: st) σ = (dbst σ q i x).bind fun τ => den mX7_keepDraft 34 [l0, l1] st τ) ∧
  (∀ (l1 : Option Value) (x : Nat) (st : List Value) (σ : dS), den mX7_keepDraft 34 [some (.ref x), l1] st σ = den mX7_keepDraft 35 [some (.ref x), l1] (.ref x :: st) σ) ∧
  (∀ (l0 l1 : Option Value) (q : Nat) (st : List Value) (σ : dS), den mX7_keepDraft 35 [l0, l1] (.ref q :: st) σ = (dget σ q 6 2).bind fun v => den mX7_keepDraft 38 [l0, l1] (v :: st) σ) ∧
  (∀ (l0 l1 : Option Value) (st : List Value) (σ : dS), den mX7_keepDraft 38 [l0, l1] st σ = den mX7_keepDraft 39 [l0, l1] (.int (nI 1) :: st) σ) ∧
  (∀ (l0 l1 : Option Value) (st : List Value) (σ : dS), den mX7_keepDraft 39 [l0, l1] st σ = den mX7_keepDraft 40 [l0, l1] (.int (nI 0) :: st) σ) ∧
  (∀ (l0 l1 : Option Value) (q : Nat) (i x : Int32) (st : List Value) (σ : dS), den mX7_keepDraft 40 [l0, l1] (.int x :: .int i :: .ref q :: st) σ = (dbst σ q i x).bind fun τ => den mX7_keepDraft 41 [l0, l1] st τ) ∧
  (∀ (l1 : Option Value) (x : Nat) (st : List Value) (σ : dS), den mX7_keepDraft 41 [some (.ref x), l1] st σ = den mX7_keepDraft 42 [some (.ref x), l1] (.ref x :: st) σ) ∧
  (∀ (l0 l1 : Option Value) (st : List Value) (σ : dS), den mX7_keepDraft 42 [l0, l1] st σ = den mX7_keepDraft 43 [l0, l1] (.int (nI 0) :: st) σ) ∧
  (∀ (l0 l1 : Option Value) (x : Int32) (q : Nat) (st : List Value) (σ : dS), den mX7_keepDraft 43 [l0, l1] (.int x :: .ref q :: st) σ = if x = 0 ∨ x = 1 then ((dput σ q 6 20 (.int x)).bind fun τ => den mX7_keepDraft 46 [l0, l1] st τ) else none) ∧
  (∀ (l0 l1 : Option Value) (σ : dS), den mX7_keepDraft 46 [l0, l1] [] σ = some (none, σ)) :=
  ⟨fun l0 l1 st σ => dn_iconst eX7_keepDraft dX7_keepDraft_0 kc_iconst_0,
  fun l1 x y st σ => dn_istore_n eX7_keepDraft dX7_keepDraft_1 rfl,
  fun l0 l1 st σ => dn_sipush eX7_keepDraft dX7_keepDraft_3 kc_sipush_128,
  fun l0 l1 x y st σ => dn_icmp_ge eX7_keepDraft dX7_keepDraft_6 (by decide),
  fun l1 x st σ => dn_aload_n eX7_keepDraft dX7_keepDraft_9 rfl,
  fun l0 l1 q st σ => dn_getfield (f := (6, 0, 771)) eX7_keepDraft dX7_keepDraft_10 (by decide +kernel),
  fun l0 x st σ => dn_iload_n eX7_keepDraft dX7_keepDraft_13 rfl,
  fun l1 x st σ => dn_aload_n eX7_keepDraft dX7_keepDraft_14 rfl,
  fun l0 l1 q st σ => dn_getfield (f := (6, 3, 774)) eX7_keepDraft dX7_keepDraft_15 (by decide +kernel),
  fun l0 x st σ => dn_iload_n eX7_keepDraft dX7_keepDraft_18 rfl,
  fun l0 l1 q i st σ => dn_iaload eX7_keepDraft dX7_keepDraft_19,
  fun l0 l1 q i x st σ => dn_iastore eX7_keepDraft dX7_keepDraft_20,
  fun x y st σ => dn_iinc (v := nI 1) eX7_keepDraft dX7_keepDraft_21 rfl kc_iconst_1 rfl,
  fun l0 l1 st σ => dn_goto eX7_keepDraft dX7_keepDraft_24 (by decide),
  fun l1 x st σ => dn_aload_n eX7_keepDraft dX7_keepDraft_27 rfl,
  fun l0 l1 q st σ => dn_getfield (f := (6, 2, 773)) eX7_keepDraft dX7_keepDraft_28 (by decide +kernel),
  fun l0 l1 st σ => dn_iconst eX7_keepDraft dX7_keepDraft_31 kc_iconst_0,
  fun l0 l1 st σ => dn_iconst eX7_keepDraft dX7_keepDraft_32 kc_iconst_0,
  fun l0 l1 q i x st σ => dn_bastore eX7_keepDraft dX7_keepDraft_33,
  fun l1 x st σ => dn_aload_n eX7_keepDraft dX7_keepDraft_34 rfl,
  fun l0 l1 q st σ => dn_getfield (f := (6, 2, 773)) eX7_keepDraft dX7_keepDraft_35 (by decide +kernel),
  fun l0 l1 st σ => dn_iconst eX7_keepDraft dX7_keepDraft_38 kc_iconst_1,
  fun l0 l1 st σ => dn_iconst eX7_keepDraft dX7_keepDraft_39 kc_iconst_0,
  fun l0 l1 q i x st σ => dn_bastore eX7_keepDraft dX7_keepDraft_40,
  fun l1 x st σ => dn_aload_n eX7_keepDraft dX7_keepDraft_41 rfl,
  fun l0 l1 st σ => dn_iconst eX7_keepDraft dX7_keepDraft_42 kc_iconst_0,
  fun l0 l1 x q st σ => dn_putfieldZ (f := (6, 20, 791)) eX7_keepDraft dX7_keepDraft_43 (by decide +kernel) (by decide +kernel),
  fun l0 l1 σ => dn_return eX7_keepDraft dX7_keepDraft_46 rfl⟩
theorem CX7_feed (a0 : Nat) (a1 : Int32) (σ : dS) : dcall mX7_feed [.ref a0, .int a1] σ = den mX7_feed 0 [some (.ref a0), some (.int a1)] [] σ := dcall_den (by decide) rfl
set_option maxRecDepth 20000 in
theorem SX7_feed : (∀ (l0 : Option Value) (x : Int32) (st : List Value) (σ : dS), den mX7_feed 0 [l0, some (.int x)] st σ = den mX7_feed 1 [l0, some (.int x)] (.int x :: st) σ) ∧
  (∀ (l0 l1 : Option Value) (x : Int32) (st : List Value) (σ : dS), den mX7_feed 1 [l0, l1] (.int x :: st) σ = den mX7_feed 2 [l0, l1] (.long x.toInt64 :: st) σ) ∧
  (∀ (l0 l1 : Option Value) (st : List Value) (σ : dS), den mX7_feed 2 [l0, l1] st σ = den mX7_feed 3 [l0, l1] (.long (lN 0) :: st) σ) ∧
  (∀ (l0 l1 : Option Value) (st : List Value) (σ : dS), den mX7_feed 3 [l0, l1] st σ = den mX7_feed 6 [l0, l1] (.long (lN 127) :: st) σ) ∧
  (∀ (l0 l1 : Option Value) (a0 : Int64) (a1 : Int64) (a2 : Int64) (σ : dS), den mX7_feed 6 [l0, l1] [.long a2, .long a1, .long a0] σ = (dcall mX7_in [.long a0, .long a1, .long a2] σ).bind fun r => den mX7_feed 9 [l0, l1] (r.1.toList ++ []) r.2) ∧
  (∀ (l0 l1 : Option Value) (x : Int32) (st : List Value) (σ : dS), den mX7_feed 9 [l0, l1] (.int x :: st) σ = if x = 0 then den mX7_feed 12 [l0, l1] st σ else den mX7_feed 14 [l0, l1] st σ) ∧
  (∀ (l0 l1 : Option Value) (st : List Value) (σ : dS), den mX7_feed 12 [l0, l1] st σ = den mX7_feed 13 [l0, l1] (.int ((-1)) :: st) σ) ∧
  (∀ (l0 l1 : Option Value) (v : Int32) (σ : dS), den mX7_feed 13 [l0, l1] [.int v] σ = some (some (.int v), σ)) ∧
  (∀ (l1 : Option Value) (x : Nat) (st : List Value) (σ : dS), den mX7_feed 14 [some (.ref x), l1] st σ = den mX7_feed 15 [some (.ref x), l1] (.ref x :: st) σ) ∧
  (∀ (l0 l1 : Option Value) (q : Nat) (st : List Value) (σ : dS), den mX7_feed 15 [l0, l1] (.ref q :: st) σ = (dget σ q 6 5).bind fun v => den mX7_feed 18 [l0, l1] (v :: st) σ) ∧
  (∀ (l0 l1 : Option Value) (st : List Value) (σ : dS), den mX7_feed 18 [l0, l1] st σ = den mX7_feed 21 [l0, l1] (.int (nI 320) :: st) σ) ∧
  (∀ (l0 l1 : Option Value) (x y : Int32) (st : List Value) (σ : dS), den mX7_feed 21 [l0, l1] (.int y :: .int x :: st) σ = if x = y then den mX7_feed 24 [l0, l1] st σ else den mX7_feed 27 [l0, l1] st σ) ∧
  (∀ (l0 l1 : Option Value) (st : List Value) (σ : dS), den mX7_feed 24 [l0, l1] st σ = den mX7_feed 26 [l0, l1] (.int ((-3)) :: st) σ) ∧
  (∀ (l0 l1 : Option Value) (v : Int32) (σ : dS), den mX7_feed 26 [l0, l1] [.int v] σ = some (some (.int v), σ)) ∧
  (∀ (l1 : Option Value) (x : Nat) (st : List Value) (σ : dS), den mX7_feed 27 [some (.ref x), l1] st σ = den mX7_feed 28 [some (.ref x), l1] (.ref x :: st) σ) ∧
  (∀ (l0 l1 : Option Value) (q : Nat) (st : List Value) (σ : dS), den mX7_feed 28 [l0, l1] (.ref q :: st) σ = (dget σ q 6 4).bind fun v => den mX7_feed 31 [l0, l1] (v :: st) σ) ∧
  (∀ (l1 : Option Value) (x : Nat) (st : List Value) (σ : dS), den mX7_feed 31 [some (.ref x), l1] st σ = den mX7_feed 32 [some (.ref x), l1] (.ref x :: st) σ) ∧
  (∀ (l0 l1 : Option Value) (q : Nat) (st : List Value) (σ : dS), den mX7_feed 32 [l0, l1] (.ref q :: st) σ = (dget σ q 6 5).bind fun v => den mX7_feed 35 [l0, l1] (v :: st) σ) ∧
  (∀ (l0 : Option Value) (x : Int32) (st : List Value) (σ : dS), den mX7_feed 35 [l0, some (.int x)] st σ = den mX7_feed 36 [l0, some (.int x)] (.int x :: st) σ) ∧
  (∀ (l0 l1 : Option Value) (q : Nat) (i x : Int32) (st : List Value) (σ : dS), den mX7_feed 36 [l0, l1] (.int x :: .int i :: .ref q :: st) σ = (dast σ q 0 i x).bind fun τ => den mX7_feed 37 [l0, l1] st τ) ∧
  (∀ (l1 : Option Value) (x : Nat) (st : List Value) (σ : dS), den mX7_feed 37 [some (.ref x), l1] st σ = den mX7_feed 38 [some (.ref x), l1] (.ref x :: st) σ) ∧
  (∀ (l0 l1 : Option Value) (x : Nat) (st : List Value) (σ : dS), den mX7_feed 38 [l0, l1] (.ref x :: st) σ = den mX7_feed 39 [l0, l1] (.ref x :: .ref x :: st) σ) ∧
  (∀ (l0 l1 : Option Value) (q : Nat) (st : List Value) (σ : dS), den mX7_feed 39 [l0, l1] (.ref q :: st) σ = (dget σ q 6 5).bind fun v => den mX7_feed 42 [l0, l1] (v :: st) σ) ∧
  (∀ (l0 l1 : Option Value) (st : List Value) (σ : dS), den mX7_feed 42 [l0, l1] st σ = den mX7_feed 43 [l0, l1] (.int (nI 1) :: st) σ) ∧
  (∀ (l0 l1 : Option Value) (x y : Int32) (st : List Value) (σ : dS), den mX7_feed 43 [l0, l1] (.int y :: .int x :: st) σ = den mX7_feed 44 [l0, l1] (.int (x + y) :: st) σ) ∧
  (∀ (l0 l1 : Option Value) (x : Int32) (q : Nat) (st : List Value) (σ : dS), den mX7_feed 44 [l0, l1] (.int x :: .ref q :: st) σ = (dput σ q 6 5 (.int x)).bind fun τ => den mX7_feed 47 [l0, l1] st τ) ∧
  (∀ (l1 : Option Value) (x : Nat) (st : List Value) (σ : dS), den mX7_feed 47 [some (.ref x), l1] st σ = den mX7_feed 48 [some (.ref x), l1] (.ref x :: st) σ) ∧
  (∀ (l0 l1 : Option Value) (q : Nat) (st : List Value) (σ : dS), den mX7_feed 48 [l0, l1] (.ref q :: st) σ = (dget σ q 6 5).bind fun v => den mX7_feed 51 [l0, l1] (v :: st) σ) ∧
  (∀ (l0 l1 : Option Value) (v : Int32) (σ : dS), den mX7_feed 51 [l0, l1] [.int v] σ = some (some (.int v), σ)) :=
  ⟨fun l0 x st σ => dn_iload_n eX7_feed dX7_feed_0 rfl,
  fun l0 l1 x st σ => dn_i2l eX7_feed dX7_feed_1,
  fun l0 l1 st σ => dn_lconst eX7_feed dX7_feed_2 kc_lconst_0,
  fun l0 l1 st σ => dn_ldc2_w (w := 127) (p := 878) eX7_feed dX7_feed_3 (by decide +kernel) (by decide +kernel),
  fun l0 l1 a0 a1 a2 σ => dn_callS (e := (1, 102, 879)) (as := [.long a0, .long a1, .long a2]) (rest := []) eX7_feed dX7_feed_6 (by decide +kernel) (Or.inl rfl) (by decide +kernel) rfl (dcat_le rfl) (dlen_le rfl) rfl,
  fun l0 l1 x st σ => dn_if_ne eX7_feed dX7_feed_9 (by decide),
  fun l0 l1 st σ => dn_iconst eX7_feed dX7_feed_12 kc_iconst_m1,
  fun l0 l1 v σ => dn_ireturn eX7_feed dX7_feed_13 rfl,
  fun l1 x st σ => dn_aload_n eX7_feed dX7_feed_14 rfl,
  fun l0 l1 q st σ => dn_getfield (f := (6, 5, 776)) eX7_feed dX7_feed_15 (by decide +kernel),
  fun l0 l1 st σ => dn_sipush eX7_feed dX7_feed_18 kc_sipush_320,
  fun l0 l1 x y st σ => dn_icmp_ne eX7_feed dX7_feed_21 (by decide),
  fun l0 l1 st σ => dn_bipush eX7_feed dX7_feed_24 kc_bipush_m3,
  fun l0 l1 v σ => dn_ireturn eX7_feed dX7_feed_26 rfl,
  fun l1 x st σ => dn_aload_n eX7_feed dX7_feed_27 rfl,
  fun l0 l1 q st σ => dn_getfield (f := (6, 4, 775)) eX7_feed dX7_feed_28 (by decide +kernel),
  fun l1 x st σ => dn_aload_n eX7_feed dX7_feed_31 rfl,
  fun l0 l1 q st σ => dn_getfield (f := (6, 5, 776)) eX7_feed dX7_feed_32 (by decide +kernel),
  fun l0 x st σ => dn_iload_n eX7_feed dX7_feed_35 rfl,
  fun l0 l1 q i x st σ => dn_iastore eX7_feed dX7_feed_36,
  fun l1 x st σ => dn_aload_n eX7_feed dX7_feed_37 rfl,
  fun l0 l1 x st σ => dn_dup eX7_feed dX7_feed_38 rfl,
  fun l0 l1 q st σ => dn_getfield (f := (6, 5, 776)) eX7_feed dX7_feed_39 (by decide +kernel),
  fun l0 l1 st σ => dn_iconst eX7_feed dX7_feed_42 kc_iconst_1,
  fun l0 l1 x y st σ => dn_iadd eX7_feed dX7_feed_43,
  fun l0 l1 x q st σ => dn_putfield (f := (6, 5, 776)) (ty := .int) eX7_feed dX7_feed_44 (by decide +kernel) (by decide +kernel) rfl,
  fun l1 x st σ => dn_aload_n eX7_feed dX7_feed_47 rfl,
  fun l0 l1 q st σ => dn_getfield (f := (6, 5, 776)) eX7_feed dX7_feed_48 (by decide +kernel),
  fun l0 l1 v σ => dn_ireturn eX7_feed dX7_feed_51 rfl⟩
theorem CX7_end (a0 : Nat) (a1 : Int32) (σ : dS) : dcall mX7_end [.ref a0, .int a1] σ = den mX7_end 0 [some (.ref a0), some (.int a1), none] [] σ := dcall_den (by decide) rfl
set_option maxRecDepth 20000 in
theorem SX7_end : (∀ (l0 l2 : Option Value) (x : Int32) (st : List Value) (σ : dS), den mX7_end 0 [l0, some (.int x), l2] st σ = den mX7_end 1 [l0, some (.int x), l2] (.int x :: st) σ) ∧
  (∀ (l0 l1 l2 : Option Value) (x : Int32) (st : List Value) (σ : dS), den mX7_end 1 [l0, l1, l2] (.int x :: st) σ = den mX7_end 2 [l0, l1, l2] (.long x.toInt64 :: st) σ) ∧
  (∀ (l0 l1 l2 : Option Value) (st : List Value) (σ : dS), den mX7_end 2 [l0, l1, l2] st σ = den mX7_end 3 [l0, l1, l2] (.long (lN 0) :: st) σ) ∧
  (∀ (l1 l2 : Option Value) (x : Nat) (st : List Value) (σ : dS), den mX7_end 3 [some (.ref x), l1, l2] st σ = den mX7_end 4 [some (.ref x), l1, l2] (.ref x :: st) σ) ∧
  (∀ (l0 l1 l2 : Option Value) (q : Nat) (st : List Value) (σ : dS), den mX7_end 4 [l0, l1, l2] (.ref q :: st) σ = (dget σ q 6 5).bind fun v => den mX7_end 7 [l0, l1, l2] (v :: st) σ) ∧
  (∀ (l0 l1 l2 : Option Value) (x : Int32) (st : List Value) (σ : dS), den mX7_end 7 [l0, l1, l2] (.int x :: st) σ = den mX7_end 8 [l0, l1, l2] (.long x.toInt64 :: st) σ) ∧
  (∀ (l0 l1 l2 : Option Value) (a0 : Int64) (a1 : Int64) (a2 : Int64) (σ : dS), den mX7_end 8 [l0, l1, l2] [.long a2, .long a1, .long a0] σ = (dcall mX7_in [.long a0, .long a1, .long a2] σ).bind fun r => den mX7_end 11 [l0, l1, l2] (r.1.toList ++ []) r.2) ∧
  (∀ (l0 l1 l2 : Option Value) (x : Int32) (st : List Value) (σ : dS), den mX7_end 11 [l0, l1, l2] (.int x :: st) σ = if x = 0 then den mX7_end 14 [l0, l1, l2] st σ else den mX7_end 16 [l0, l1, l2] st σ) ∧
  (∀ (l0 l1 l2 : Option Value) (st : List Value) (σ : dS), den mX7_end 14 [l0, l1, l2] st σ = den mX7_end 15 [l0, l1, l2] (.int ((-1)) :: st) σ) ∧
  (∀ (l0 l1 l2 : Option Value) (v : Int32) (σ : dS), den mX7_end 15 [l0, l1, l2] [.int v] σ = some (some (.int v), σ)) ∧
  (∀ (l1 l2 : Option Value) (x : Nat) (st : List Value) (σ : dS), den mX7_end 16 [some (.ref x), l1, l2] st σ = den mX7_end 17 [some (.ref x), l1, l2] (.ref x :: st) σ) ∧
  (∀ (l0 l1 l2 : Option Value) (q : Nat) (st : List Value) (σ : dS), den mX7_end 17 [l0, l1, l2] (.ref q :: st) σ = (dget σ q 6 5).bind fun v => den mX7_end 20 [l0, l1, l2] (v :: st) σ) ∧
  (∀ (l0 l2 : Option Value) (x : Int32) (y : Int32) (st : List Value) (σ : dS), den mX7_end 20 [l0, some (.int y), l2] (.int x :: st) σ = den mX7_end 21 [l0, some (.int y), some (.int x)] st σ) ∧
  (∀ (l1 l2 : Option Value) (x : Nat) (st : List Value) (σ : dS), den mX7_end 21 [some (.ref x), l1, l2] st σ = den mX7_end 22 [some (.ref x), l1, l2] (.ref x :: st) σ) ∧
  (∀ (l0 l2 : Option Value) (x : Int32) (st : List Value) (σ : dS), den mX7_end 22 [l0, some (.int x), l2] st σ = den mX7_end 23 [l0, some (.int x), l2] (.int x :: st) σ) ∧
  (∀ (l0 l1 l2 : Option Value) (x : Int32) (q : Nat) (st : List Value) (σ : dS), den mX7_end 23 [l0, l1, l2] (.int x :: .ref q :: st) σ = (dput σ q 6 5 (.int x)).bind fun τ => den mX7_end 26 [l0, l1, l2] st τ) ∧
  (∀ (l0 l1 : Option Value) (x : Int32) (st : List Value) (σ : dS), den mX7_end 26 [l0, l1, some (.int x)] st σ = den mX7_end 27 [l0, l1, some (.int x)] (.int x :: st) σ) ∧
  (∀ (l0 l1 l2 : Option Value) (v : Int32) (σ : dS), den mX7_end 27 [l0, l1, l2] [.int v] σ = some (some (.int v), σ)) :=
  ⟨fun l0 l2 x st σ => dn_iload_n eX7_end dX7_end_0 rfl,
  fun l0 l1 l2 x st σ => dn_i2l eX7_end dX7_end_1,
  fun l0 l1 l2 st σ => dn_lconst eX7_end dX7_end_2 kc_lconst_0,
  fun l1 l2 x st σ => dn_aload_n eX7_end dX7_end_3 rfl,
  fun l0 l1 l2 q st σ => dn_getfield (f := (6, 5, 776)) eX7_end dX7_end_4 (by decide +kernel),
  fun l0 l1 l2 x st σ => dn_i2l eX7_end dX7_end_7,
  fun l0 l1 l2 a0 a1 a2 σ => dn_callS (e := (1, 102, 879)) (as := [.long a0, .long a1, .long a2]) (rest := []) eX7_end dX7_end_8 (by decide +kernel) (Or.inl rfl) (by decide +kernel) rfl (dcat_le rfl) (dlen_le rfl) rfl,
  fun l0 l1 l2 x st σ => dn_if_ne eX7_end dX7_end_11 (by decide),
  fun l0 l1 l2 st σ => dn_iconst eX7_end dX7_end_14 kc_iconst_m1,
  fun l0 l1 l2 v σ => dn_ireturn eX7_end dX7_end_15 rfl,
  fun l1 l2 x st σ => dn_aload_n eX7_end dX7_end_16 rfl,
  fun l0 l1 l2 q st σ => dn_getfield (f := (6, 5, 776)) eX7_end dX7_end_17 (by decide +kernel),
  fun l0 l2 x y st σ => dn_istore_n eX7_end dX7_end_20 rfl,
  fun l1 l2 x st σ => dn_aload_n eX7_end dX7_end_21 rfl,
  fun l0 l2 x st σ => dn_iload_n eX7_end dX7_end_22 rfl,
  fun l0 l1 l2 x q st σ => dn_putfield (f := (6, 5, 776)) (ty := .int) eX7_end dX7_end_23 (by decide +kernel) (by decide +kernel) rfl,
  fun l0 l1 x st σ => dn_iload_n eX7_end dX7_end_26 rfl,
  fun l0 l1 l2 v σ => dn_ireturn eX7_end dX7_end_27 rfl⟩
theorem CX7_requires (a0 : Nat) (a1 : Int32) (a2 : Int32) (σ : dS) : dcall mX7_requires [.ref a0, .int a1, .int a2] σ = den mX7_requires 0 [some (.ref a0), some (.int a1), some (.int a2)] [] σ := dcall_den (by decide) rfl
set_option maxRecDepth 20000 in
theorem SX7_requires : (∀ (l0 l2 : Option Value) (x : Int32) (st : List Value) (σ : dS), den mX7_requires 0 [l0, some (.int x), l2] st σ = den mX7_requires 1 [l0, some (.int x), l2] (.int x :: st) σ) ∧
  (∀ (l0 l1 l2 : Option Value) (x : Int32) (st : List Value) (σ : dS), den mX7_requires 1 [l0, l1, l2] (.int x :: st) σ = if x = 0 then den mX7_requires 4 [l0, l1, l2] st σ else den mX7_requires 24 [l0, l1, l2] st σ) ∧
  (∀ (l1 l2 : Option Value) (x : Nat) (st : List Value) (σ : dS), den mX7_requires 4 [some (.ref x), l1, l2] st σ = den mX7_requires 5 [some (.ref x), l1, l2] (.ref x :: st) σ) ∧
  (∀ (l0 l1 l2 : Option Value) (q : Nat) (st : List Value) (σ : dS), den mX7_requires 5 [l0, l1, l2] (.ref q :: st) σ = (dget σ q 6 10).bind fun v => den mX7_requires 8 [l0, l1, l2] (v :: st) σ) ∧
  (∀ (l0 l1 l2 : Option Value) (x : Int32) (st : List Value) (σ : dS), den mX7_requires 8 [l0, l1, l2] (.int x :: st) σ = if x = 0 then den mX7_requires 11 [l0, l1, l2] st σ else den mX7_requires 24 [l0, l1, l2] st σ) ∧
  (∀ (l1 l2 : Option Value) (x : Nat) (st : List Value) (σ : dS), den mX7_requires 11 [some (.ref x), l1, l2] st σ = den mX7_requires 12 [some (.ref x), l1, l2] (.ref x :: st) σ) ∧
  (∀ (l0 l1 : Option Value) (x : Int32) (st : List Value) (σ : dS), den mX7_requires 12 [l0, l1, some (.int x)] st σ = den mX7_requires 13 [l0, l1, some (.int x)] (.int x :: st) σ) ∧
  (∀ (l0 l1 l2 : Option Value) (x : Int32) (q : Nat) (st : List Value) (σ : dS), den mX7_requires 13 [l0, l1, l2] (.int x :: .ref q :: st) σ = (dput σ q 6 10 (.int x)).bind fun τ => den mX7_requires 16 [l0, l1, l2] st τ) ∧
  (∀ (l1 l2 : Option Value) (x : Nat) (st : List Value) (σ : dS), den mX7_requires 16 [some (.ref x), l1, l2] st σ = den mX7_requires 17 [some (.ref x), l1, l2] (.ref x :: st) σ) ∧
  (∀ (l1 l2 : Option Value) (x : Nat) (st : List Value) (σ : dS), den mX7_requires 17 [some (.ref x), l1, l2] st σ = den mX7_requires 18 [some (.ref x), l1, l2] (.ref x :: st) σ) ∧
  (∀ (l0 l1 l2 : Option Value) (q : Nat) (st : List Value) (σ : dS), den mX7_requires 18 [l0, l1, l2] (.ref q :: st) σ = (dget σ q 6 7).bind fun v => den mX7_requires 21 [l0, l1, l2] (v :: st) σ) ∧
  (∀ (l0 l1 l2 : Option Value) (x : Int32) (q : Nat) (st : List Value) (σ : dS), den mX7_requires 21 [l0, l1, l2] (.int x :: .ref q :: st) σ = (dput σ q 6 11 (.int x)).bind fun τ => den mX7_requires 24 [l0, l1, l2] st τ) ∧
  (∀ (l0 l1 l2 : Option Value) (σ : dS), den mX7_requires 24 [l0, l1, l2] [] σ = some (none, σ)) :=
  ⟨fun l0 l2 x st σ => dn_iload_n eX7_requires dX7_requires_0 rfl,
  fun l0 l1 l2 x st σ => dn_if_ne eX7_requires dX7_requires_1 (by decide),
  fun l1 l2 x st σ => dn_aload_n eX7_requires dX7_requires_4 rfl,
  fun l0 l1 l2 q st σ => dn_getfield (f := (6, 10, 781)) eX7_requires dX7_requires_5 (by decide +kernel),
  fun l0 l1 l2 x st σ => dn_if_ne eX7_requires dX7_requires_8 (by decide),
  fun l1 l2 x st σ => dn_aload_n eX7_requires dX7_requires_11 rfl,
  fun l0 l1 x st σ => dn_iload_n eX7_requires dX7_requires_12 rfl,
  fun l0 l1 l2 x q st σ => dn_putfield (f := (6, 10, 781)) (ty := .int) eX7_requires dX7_requires_13 (by decide +kernel) (by decide +kernel) rfl,
  fun l1 l2 x st σ => dn_aload_n eX7_requires dX7_requires_16 rfl,
  fun l1 l2 x st σ => dn_aload_n eX7_requires dX7_requires_17 rfl,
  fun l0 l1 l2 q st σ => dn_getfield (f := (6, 7, 778)) eX7_requires dX7_requires_18 (by decide +kernel),
  fun l0 l1 l2 x q st σ => dn_putfield (f := (6, 11, 782)) (ty := .int) eX7_requires dX7_requires_21 (by decide +kernel) (by decide +kernel) rfl,
  fun l0 l1 l2 σ => dn_return eX7_requires dX7_requires_24 rfl⟩
theorem CX7_byteAt (a0 : Nat) (a1 : Int32) (σ : dS) : dcall mX7_byteAt [.ref a0, .int a1] σ = den mX7_byteAt 0 [some (.ref a0), some (.int a1)] [] σ := dcall_den (by decide) rfl
set_option maxRecDepth 20000 in
theorem SX7_byteAt : (∀ (l0 : Option Value) (x : Int32) (st : List Value) (σ : dS), den mX7_byteAt 0 [l0, some (.int x)] st σ = den mX7_byteAt 1 [l0, some (.int x)] (.int x :: st) σ) ∧
  (∀ (l1 : Option Value) (x : Nat) (st : List Value) (σ : dS), den mX7_byteAt 1 [some (.ref x), l1] st σ = den mX7_byteAt 2 [some (.ref x), l1] (.ref x :: st) σ) ∧
  (∀ (l0 l1 : Option Value) (q : Nat) (st : List Value) (σ : dS), den mX7_byteAt 2 [l0, l1] (.ref q :: st) σ = (dget σ q 6 5).bind fun v => den mX7_byteAt 5 [l0, l1] (v :: st) σ) ∧
  (∀ (l0 l1 : Option Value) (x y : Int32) (st : List Value) (σ : dS), den mX7_byteAt 5 [l0, l1] (.int y :: .int x :: st) σ = if x < y then den mX7_byteAt 8 [l0, l1] st σ else den mX7_byteAt 17 [l0, l1] st σ) ∧
  (∀ (l1 : Option Value) (x : Nat) (st : List Value) (σ : dS), den mX7_byteAt 8 [some (.ref x), l1] st σ = den mX7_byteAt 9 [some (.ref x), l1] (.ref x :: st) σ) ∧
  (∀ (l0 l1 : Option Value) (q : Nat) (st : List Value) (σ : dS), den mX7_byteAt 9 [l0, l1] (.ref q :: st) σ = (dget σ q 6 4).bind fun v => den mX7_byteAt 12 [l0, l1] (v :: st) σ) ∧
  (∀ (l0 : Option Value) (x : Int32) (st : List Value) (σ : dS), den mX7_byteAt 12 [l0, some (.int x)] st σ = den mX7_byteAt 13 [l0, some (.int x)] (.int x :: st) σ) ∧
  (∀ (l0 l1 : Option Value) (q : Nat) (i : Int32) (st : List Value) (σ : dS), den mX7_byteAt 13 [l0, l1] (.int i :: .ref q :: st) σ = if q ≤ dN then (dald σ q 0 i).bind (fun v => den mX7_byteAt 14 [l0, l1] (.int v :: st) σ) else none) ∧
  (∀ (l0 l1 : Option Value) (st : List Value) (σ : dS), den mX7_byteAt 14 [l0, l1] st σ = den mX7_byteAt 18 [l0, l1] st σ) ∧
  (∀ (l0 l1 : Option Value) (st : List Value) (σ : dS), den mX7_byteAt 17 [l0, l1] st σ = den mX7_byteAt 18 [l0, l1] (.int ((-1)) :: st) σ) ∧
  (∀ (l0 l1 : Option Value) (v : Int32) (σ : dS), den mX7_byteAt 18 [l0, l1] [.int v] σ = some (some (.int v), σ)) :=
  ⟨fun l0 x st σ => dn_iload_n eX7_byteAt dX7_byteAt_0 rfl,
  fun l1 x st σ => dn_aload_n eX7_byteAt dX7_byteAt_1 rfl,
  fun l0 l1 q st σ => dn_getfield (f := (6, 5, 776)) eX7_byteAt dX7_byteAt_2 (by decide +kernel),
  fun l0 l1 x y st σ => dn_icmp_ge eX7_byteAt dX7_byteAt_5 (by decide),
  fun l1 x st σ => dn_aload_n eX7_byteAt dX7_byteAt_8 rfl,
  fun l0 l1 q st σ => dn_getfield (f := (6, 4, 775)) eX7_byteAt dX7_byteAt_9 (by decide +kernel),
  fun l0 x st σ => dn_iload_n eX7_byteAt dX7_byteAt_12 rfl,
  fun l0 l1 q i st σ => dn_iaload eX7_byteAt dX7_byteAt_13,
  fun l0 l1 st σ => dn_goto eX7_byteAt dX7_byteAt_14 (by decide),
  fun l0 l1 st σ => dn_iconst eX7_byteAt dX7_byteAt_17 kc_iconst_m1,
  fun l0 l1 v σ => dn_ireturn eX7_byteAt dX7_byteAt_18 rfl⟩
theorem CX7_is (a0 : Nat) (a1 : Int32) (a2 : Int32) (a3 : Int32) (σ : dS) : dcall mX7_is [.ref a0, .int a1, .int a2, .int a3] σ = den mX7_is 0 [some (.ref a0), some (.int a1), some (.int a2), some (.int a3)] [] σ := dcall_den (by decide) rfl
theorem rX7_is_18 (l0 l1 l2 l3 : Option Value) (a0 : Int32) (q : Nat) (σ : dS) : den mX7_is 18 [l0, l1, l2, l3] [.int a0, .ref q] σ = if disO σ q 6 = true then ((dcall mX7_byteAt [.ref q, .int a0] σ).bind fun r => den mX7_is 21 [l0, l1, l2, l3] (r.1.toList ++ []) r.2) else none := by
  by_cases h : disO σ q 6 = true
  · rw [if_pos h]; exact dn_callV (e := (0, 109, 894)) (as := [.int a0]) (rest := []) eX7_is dX7_is_18 (by decide +kernel) rfl (by decide +kernel) rfl (dcat_le rfl) (dlen_le rfl) rfl h
  · rw [if_neg h]; exact den_noV (e := (0, 109, 894)) (as := [.int a0]) (rest := []) eX7_is dX7_is_18 (by decide +kernel) rfl rfl rfl h
theorem rX7_is_32 (l0 l1 l2 l3 : Option Value) (a0 : Int32) (q : Nat) (σ : dS) : den mX7_is 32 [l0, l1, l2, l3] [.int a0, .ref q] σ = if disO σ q 6 = true then ((dcall mX7_byteAt [.ref q, .int a0] σ).bind fun r => den mX7_is 35 [l0, l1, l2, l3] (r.1.toList ++ []) r.2) else none := by
  by_cases h : disO σ q 6 = true
  · rw [if_pos h]; exact dn_callV (e := (0, 109, 894)) (as := [.int a0]) (rest := []) eX7_is dX7_is_32 (by decide +kernel) rfl (by decide +kernel) rfl (dcat_le rfl) (dlen_le rfl) rfl h
  · rw [if_neg h]; exact den_noV (e := (0, 109, 894)) (as := [.int a0]) (rest := []) eX7_is dX7_is_32 (by decide +kernel) rfl rfl rfl h
theorem rX7_is_46 (l0 l1 l2 l3 : Option Value) (a0 : Int32) (q : Nat) (σ : dS) : den mX7_is 46 [l0, l1, l2, l3] [.int a0, .ref q] σ = if disO σ q 6 = true then ((dcall mX7_byteAt [.ref q, .int a0] σ).bind fun r => den mX7_is 49 [l0, l1, l2, l3] (r.1.toList ++ []) r.2) else none := by
  by_cases h : disO σ q 6 = true
  · rw [if_pos h]; exact dn_callV (e := (0, 109, 894)) (as := [.int a0]) (rest := []) eX7_is dX7_is_46 (by decide +kernel) rfl (by decide +kernel) rfl (dcat_le rfl) (dlen_le rfl) rfl h
  · rw [if_neg h]; exact den_noV (e := (0, 109, 894)) (as := [.int a0]) (rest := []) eX7_is dX7_is_46 (by decide +kernel) rfl rfl rfl h
set_option maxRecDepth 20000 in
theorem SX7_is : (∀ (l1 l2 l3 : Option Value) (x : Nat) (st : List Value) (σ : dS), den mX7_is 0 [some (.ref x), l1, l2, l3] st σ = den mX7_is 1 [some (.ref x), l1, l2, l3] (.ref x :: st) σ) ∧
  (∀ (l0 l1 l2 l3 : Option Value) (q : Nat) (st : List Value) (σ : dS), den mX7_is 1 [l0, l1, l2, l3] (.ref q :: st) σ = (dget σ q 6 6).bind fun v => den mX7_is 4 [l0, l1, l2, l3] (v :: st) σ) ∧
  (∀ (l1 l2 l3 : Option Value) (x : Nat) (st : List Value) (σ : dS), den mX7_is 4 [some (.ref x), l1, l2, l3] st σ = den mX7_is 5 [some (.ref x), l1, l2, l3] (.ref x :: st) σ) ∧
  (∀ (l0 l1 l2 l3 : Option Value) (q : Nat) (st : List Value) (σ : dS), den mX7_is 5 [l0, l1, l2, l3] (.ref q :: st) σ = (dget σ q 6 7).bind fun v => den mX7_is 8 [l0, l1, l2, l3] (v :: st) σ) ∧
  (∀ (l0 l1 l2 l3 : Option Value) (x y : Int32) (st : List Value) (σ : dS), den mX7_is 8 [l0, l1, l2, l3] (.int y :: .int x :: st) σ = den mX7_is 9 [l0, l1, l2, l3] (.int (x - y) :: st) σ) ∧
  (∀ (l0 l1 l2 l3 : Option Value) (st : List Value) (σ : dS), den mX7_is 9 [l0, l1, l2, l3] st σ = den mX7_is 10 [l0, l1, l2, l3] (.int (nI 3) :: st) σ) ∧
  (∀ (l0 l1 l2 l3 : Option Value) (x y : Int32) (st : List Value) (σ : dS), den mX7_is 10 [l0, l1, l2, l3] (.int y :: .int x :: st) σ = if x = y then den mX7_is 13 [l0, l1, l2, l3] st σ else den mX7_is 57 [l0, l1, l2, l3] st σ) ∧
  (∀ (l1 l2 l3 : Option Value) (x : Nat) (st : List Value) (σ : dS), den mX7_is 13 [some (.ref x), l1, l2, l3] st σ = den mX7_is 14 [some (.ref x), l1, l2, l3] (.ref x :: st) σ) ∧
  (∀ (l1 l2 l3 : Option Value) (x : Nat) (st : List Value) (σ : dS), den mX7_is 14 [some (.ref x), l1, l2, l3] st σ = den mX7_is 15 [some (.ref x), l1, l2, l3] (.ref x :: st) σ) ∧
  (∀ (l0 l1 l2 l3 : Option Value) (q : Nat) (st : List Value) (σ : dS), den mX7_is 15 [l0, l1, l2, l3] (.ref q :: st) σ = (dget σ q 6 7).bind fun v => den mX7_is 18 [l0, l1, l2, l3] (v :: st) σ) ∧
  (∀ (l0 l1 l2 l3 : Option Value) (a0 : Int32) (q : Nat) (σ : dS), den mX7_is 18 [l0, l1, l2, l3] [.int a0, .ref q] σ = if disO σ q 6 = true then ((dcall mX7_byteAt [.ref q, .int a0] σ).bind fun r => den mX7_is 21 [l0, l1, l2, l3] (r.1.toList ++ []) r.2) else none) ∧
  (∀ (l0 l2 l3 : Option Value) (x : Int32) (st : List Value) (σ : dS), den mX7_is 21 [l0, some (.int x), l2, l3] st σ = den mX7_is 22 [l0, some (.int x), l2, l3] (.int x :: st) σ) ∧
  (∀ (l0 l1 l2 l3 : Option Value) (x y : Int32) (st : List Value) (σ : dS), den mX7_is 22 [l0, l1, l2, l3] (.int y :: .int x :: st) σ = if x = y then den mX7_is 25 [l0, l1, l2, l3] st σ else den mX7_is 57 [l0, l1, l2, l3] st σ) ∧
  (∀ (l1 l2 l3 : Option Value) (x : Nat) (st : List Value) (σ : dS), den mX7_is 25 [some (.ref x), l1, l2, l3] st σ = den mX7_is 26 [some (.ref x), l1, l2, l3] (.ref x :: st) σ) ∧
  (∀ (l1 l2 l3 : Option Value) (x : Nat) (st : List Value) (σ : dS), den mX7_is 26 [some (.ref x), l1, l2, l3] st σ = den mX7_is 27 [some (.ref x), l1, l2, l3] (.ref x :: st) σ) ∧
  (∀ (l0 l1 l2 l3 : Option Value) (q : Nat) (st : List Value) (σ : dS), den mX7_is 27 [l0, l1, l2, l3] (.ref q :: st) σ = (dget σ q 6 7).bind fun v => den mX7_is 30 [l0, l1, l2, l3] (v :: st) σ) ∧
  (∀ (l0 l1 l2 l3 : Option Value) (st : List Value) (σ : dS), den mX7_is 30 [l0, l1, l2, l3] st σ = den mX7_is 31 [l0, l1, l2, l3] (.int (nI 1) :: st) σ) ∧
  (∀ (l0 l1 l2 l3 : Option Value) (x y : Int32) (st : List Value) (σ : dS), den mX7_is 31 [l0, l1, l2, l3] (.int y :: .int x :: st) σ = den mX7_is 32 [l0, l1, l2, l3] (.int (x + y) :: st) σ) ∧
  (∀ (l0 l1 l2 l3 : Option Value) (a0 : Int32) (q : Nat) (σ : dS), den mX7_is 32 [l0, l1, l2, l3] [.int a0, .ref q] σ = if disO σ q 6 = true then ((dcall mX7_byteAt [.ref q, .int a0] σ).bind fun r => den mX7_is 35 [l0, l1, l2, l3] (r.1.toList ++ []) r.2) else none) ∧
  (∀ (l0 l1 l3 : Option Value) (x : Int32) (st : List Value) (σ : dS), den mX7_is 35 [l0, l1, some (.int x), l3] st σ = den mX7_is 36 [l0, l1, some (.int x), l3] (.int x :: st) σ) ∧
  (∀ (l0 l1 l2 l3 : Option Value) (x y : Int32) (st : List Value) (σ : dS), den mX7_is 36 [l0, l1, l2, l3] (.int y :: .int x :: st) σ = if x = y then den mX7_is 39 [l0, l1, l2, l3] st σ else den mX7_is 57 [l0, l1, l2, l3] st σ) ∧
  (∀ (l1 l2 l3 : Option Value) (x : Nat) (st : List Value) (σ : dS), den mX7_is 39 [some (.ref x), l1, l2, l3] st σ = den mX7_is 40 [some (.ref x), l1, l2, l3] (.ref x :: st) σ) ∧
  (∀ (l1 l2 l3 : Option Value) (x : Nat) (st : List Value) (σ : dS), den mX7_is 40 [some (.ref x), l1, l2, l3] st σ = den mX7_is 41 [some (.ref x), l1, l2, l3] (.ref x :: st) σ) ∧
  (∀ (l0 l1 l2 l3 : Option Value) (q : Nat) (st : List Value) (σ : dS), den mX7_is 41 [l0, l1, l2, l3] (.ref q :: st) σ = (dget σ q 6 7).bind fun v => den mX7_is 44 [l0, l1, l2, l3] (v :: st) σ) ∧
  (∀ (l0 l1 l2 l3 : Option Value) (st : List Value) (σ : dS), den mX7_is 44 [l0, l1, l2, l3] st σ = den mX7_is 45 [l0, l1, l2, l3] (.int (nI 2) :: st) σ) ∧
  (∀ (l0 l1 l2 l3 : Option Value) (x y : Int32) (st : List Value) (σ : dS), den mX7_is 45 [l0, l1, l2, l3] (.int y :: .int x :: st) σ = den mX7_is 46 [l0, l1, l2, l3] (.int (x + y) :: st) σ) ∧
  (∀ (l0 l1 l2 l3 : Option Value) (a0 : Int32) (q : Nat) (σ : dS), den mX7_is 46 [l0, l1, l2, l3] [.int a0, .ref q] σ = if disO σ q 6 = true then ((dcall mX7_byteAt [.ref q, .int a0] σ).bind fun r => den mX7_is 49 [l0, l1, l2, l3] (r.1.toList ++ []) r.2) else none) ∧
  (∀ (l0 l1 l2 : Option Value) (x : Int32) (st : List Value) (σ : dS), den mX7_is 49 [l0, l1, l2, some (.int x)] st σ = den mX7_is 50 [l0, l1, l2, some (.int x)] (.int x :: st) σ) ∧
  (∀ (l0 l1 l2 l3 : Option Value) (x y : Int32) (st : List Value) (σ : dS), den mX7_is 50 [l0, l1, l2, l3] (.int y :: .int x :: st) σ = if x = y then den mX7_is 53 [l0, l1, l2, l3] st σ else den mX7_is 57 [l0, l1, l2, l3] st σ) ∧
  (∀ (l0 l1 l2 l3 : Option Value) (st : List Value) (σ : dS), den mX7_is 53 [l0, l1, l2, l3] st σ = den mX7_is 54 [l0, l1, l2, l3] (.int (nI 1) :: st) σ) ∧
  (∀ (l0 l1 l2 l3 : Option Value) (st : List Value) (σ : dS), den mX7_is 54 [l0, l1, l2, l3] st σ = den mX7_is 58 [l0, l1, l2, l3] st σ) ∧
  (∀ (l0 l1 l2 l3 : Option Value) (st : List Value) (σ : dS), den mX7_is 57 [l0, l1, l2, l3] st σ = den mX7_is 58 [l0, l1, l2, l3] (.int (nI 0) :: st) σ) ∧
  (∀ (l0 l1 l2 l3 : Option Value) (v : Int32) (σ : dS), den mX7_is 58 [l0, l1, l2, l3] [.int v] σ = if v = 0 ∨ v = 1 then some (some (.int v), σ) else none) :=
  ⟨fun l1 l2 l3 x st σ => dn_aload_n eX7_is dX7_is_0 rfl,
  fun l0 l1 l2 l3 q st σ => dn_getfield (f := (6, 6, 777)) eX7_is dX7_is_1 (by decide +kernel),
  fun l1 l2 l3 x st σ => dn_aload_n eX7_is dX7_is_4 rfl,
  fun l0 l1 l2 l3 q st σ => dn_getfield (f := (6, 7, 778)) eX7_is dX7_is_5 (by decide +kernel),
  fun l0 l1 l2 l3 x y st σ => dn_isub eX7_is dX7_is_8,
  fun l0 l1 l2 l3 st σ => dn_iconst eX7_is dX7_is_9 kc_iconst_3,
  fun l0 l1 l2 l3 x y st σ => dn_icmp_ne eX7_is dX7_is_10 (by decide),
  fun l1 l2 l3 x st σ => dn_aload_n eX7_is dX7_is_13 rfl,
  fun l1 l2 l3 x st σ => dn_aload_n eX7_is dX7_is_14 rfl,
  fun l0 l1 l2 l3 q st σ => dn_getfield (f := (6, 7, 778)) eX7_is dX7_is_15 (by decide +kernel),
  fun l0 l1 l2 l3 a0 q σ => rX7_is_18 l0 l1 l2 l3 a0 q σ,
  fun l0 l2 l3 x st σ => dn_iload_n eX7_is dX7_is_21 rfl,
  fun l0 l1 l2 l3 x y st σ => dn_icmp_ne eX7_is dX7_is_22 (by decide),
  fun l1 l2 l3 x st σ => dn_aload_n eX7_is dX7_is_25 rfl,
  fun l1 l2 l3 x st σ => dn_aload_n eX7_is dX7_is_26 rfl,
  fun l0 l1 l2 l3 q st σ => dn_getfield (f := (6, 7, 778)) eX7_is dX7_is_27 (by decide +kernel),
  fun l0 l1 l2 l3 st σ => dn_iconst eX7_is dX7_is_30 kc_iconst_1,
  fun l0 l1 l2 l3 x y st σ => dn_iadd eX7_is dX7_is_31,
  fun l0 l1 l2 l3 a0 q σ => rX7_is_32 l0 l1 l2 l3 a0 q σ,
  fun l0 l1 l3 x st σ => dn_iload_n eX7_is dX7_is_35 rfl,
  fun l0 l1 l2 l3 x y st σ => dn_icmp_ne eX7_is dX7_is_36 (by decide),
  fun l1 l2 l3 x st σ => dn_aload_n eX7_is dX7_is_39 rfl,
  fun l1 l2 l3 x st σ => dn_aload_n eX7_is dX7_is_40 rfl,
  fun l0 l1 l2 l3 q st σ => dn_getfield (f := (6, 7, 778)) eX7_is dX7_is_41 (by decide +kernel),
  fun l0 l1 l2 l3 st σ => dn_iconst eX7_is dX7_is_44 kc_iconst_2,
  fun l0 l1 l2 l3 x y st σ => dn_iadd eX7_is dX7_is_45,
  fun l0 l1 l2 l3 a0 q σ => rX7_is_46 l0 l1 l2 l3 a0 q σ,
  fun l0 l1 l2 x st σ => dn_iload_n eX7_is dX7_is_49 rfl,
  fun l0 l1 l2 l3 x y st σ => dn_icmp_ne eX7_is dX7_is_50 (by decide),
  fun l0 l1 l2 l3 st σ => dn_iconst eX7_is dX7_is_53 kc_iconst_1,
  fun l0 l1 l2 l3 st σ => dn_goto eX7_is dX7_is_54 (by decide),
  fun l0 l1 l2 l3 st σ => dn_iconst eX7_is dX7_is_57 kc_iconst_0,
  fun l0 l1 l2 l3 v σ => dn_zreturn eX7_is dX7_is_58 rfl⟩
theorem CX7_kindNow (a0 : Nat) (σ : dS) : dcall mX7_kindNow [.ref a0] σ = den mX7_kindNow 0 [some (.ref a0)] [] σ := dcall_den (by decide) rfl
theorem rX7_kindNow_18 (l0 : Option Value) (a0 : Int32) (a1 : Int32) (a2 : Int32) (q : Nat) (σ : dS) : den mX7_kindNow 18 [l0] [.int a2, .int a1, .int a0, .ref q] σ = if disO σ q 6 = true then ((dcall mX7_is [.ref q, .int a0, .int a1, .int a2] σ).bind fun r => den mX7_kindNow 21 [l0] (r.1.toList ++ []) r.2) else none := by
  by_cases h : disO σ q 6 = true
  · rw [if_pos h]; exact dn_callV (e := (0, 110, 922)) (as := [.int a0, .int a1, .int a2]) (rest := []) eX7_kindNow dX7_kindNow_18 (by decide +kernel) rfl (by decide +kernel) rfl (dcat_le rfl) (dlen_le rfl) rfl h
  · rw [if_neg h]; exact den_noV (e := (0, 110, 922)) (as := [.int a0, .int a1, .int a2]) (rest := []) eX7_kindNow dX7_kindNow_18 (by decide +kernel) rfl rfl rfl h
theorem rX7_kindNow_33 (l0 : Option Value) (a0 : Int32) (a1 : Int32) (a2 : Int32) (q : Nat) (σ : dS) : den mX7_kindNow 33 [l0] [.int a2, .int a1, .int a0, .ref q] σ = if disO σ q 6 = true then ((dcall mX7_is [.ref q, .int a0, .int a1, .int a2] σ).bind fun r => den mX7_kindNow 36 [l0] (r.1.toList ++ []) r.2) else none := by
  by_cases h : disO σ q 6 = true
  · rw [if_pos h]; exact dn_callV (e := (0, 110, 922)) (as := [.int a0, .int a1, .int a2]) (rest := []) eX7_kindNow dX7_kindNow_33 (by decide +kernel) rfl (by decide +kernel) rfl (dcat_le rfl) (dlen_le rfl) rfl h
  · rw [if_neg h]; exact den_noV (e := (0, 110, 922)) (as := [.int a0, .int a1, .int a2]) (rest := []) eX7_kindNow dX7_kindNow_33 (by decide +kernel) rfl rfl rfl h
theorem rX7_kindNow_48 (l0 : Option Value) (a0 : Int32) (a1 : Int32) (a2 : Int32) (q : Nat) (σ : dS) : den mX7_kindNow 48 [l0] [.int a2, .int a1, .int a0, .ref q] σ = if disO σ q 6 = true then ((dcall mX7_is [.ref q, .int a0, .int a1, .int a2] σ).bind fun r => den mX7_kindNow 51 [l0] (r.1.toList ++ []) r.2) else none := by
  by_cases h : disO σ q 6 = true
  · rw [if_pos h]; exact dn_callV (e := (0, 110, 922)) (as := [.int a0, .int a1, .int a2]) (rest := []) eX7_kindNow dX7_kindNow_48 (by decide +kernel) rfl (by decide +kernel) rfl (dcat_le rfl) (dlen_le rfl) rfl h
  · rw [if_neg h]; exact den_noV (e := (0, 110, 922)) (as := [.int a0, .int a1, .int a2]) (rest := []) eX7_kindNow dX7_kindNow_48 (by decide +kernel) rfl rfl rfl h
theorem rX7_kindNow_63 (l0 : Option Value) (a0 : Int32) (a1 : Int32) (a2 : Int32) (q : Nat) (σ : dS) : den mX7_kindNow 63 [l0] [.int a2, .int a1, .int a0, .ref q] σ = if disO σ q 6 = true then ((dcall mX7_is [.ref q, .int a0, .int a1, .int a2] σ).bind fun r => den mX7_kindNow 66 [l0] (r.1.toList ++ []) r.2) else none := by
  by_cases h : disO σ q 6 = true
  · rw [if_pos h]; exact dn_callV (e := (0, 110, 922)) (as := [.int a0, .int a1, .int a2]) (rest := []) eX7_kindNow dX7_kindNow_63 (by decide +kernel) rfl (by decide +kernel) rfl (dcat_le rfl) (dlen_le rfl) rfl h
  · rw [if_neg h]; exact den_noV (e := (0, 110, 922)) (as := [.int a0, .int a1, .int a2]) (rest := []) eX7_kindNow dX7_kindNow_63 (by decide +kernel) rfl rfl rfl h
theorem rX7_kindNow_78 (l0 : Option Value) (a0 : Int32) (a1 : Int32) (a2 : Int32) (q : Nat) (σ : dS) : den mX7_kindNow 78 [l0] [.int a2, .int a1, .int a0, .ref q] σ = if disO σ q 6 = true then ((dcall mX7_is [.ref q, .int a0, .int a1, .int a2] σ).bind fun r => den mX7_kindNow 81 [l0] (r.1.toList ++ []) r.2) else none := by
  by_cases h : disO σ q 6 = true
  · rw [if_pos h]; exact dn_callV (e := (0, 110, 922)) (as := [.int a0, .int a1, .int a2]) (rest := []) eX7_kindNow dX7_kindNow_78 (by decide +kernel) rfl (by decide +kernel) rfl (dcat_le rfl) (dlen_le rfl) rfl h
  · rw [if_neg h]; exact den_noV (e := (0, 110, 922)) (as := [.int a0, .int a1, .int a2]) (rest := []) eX7_kindNow dX7_kindNow_78 (by decide +kernel) rfl rfl rfl h
theorem rX7_kindNow_106 (l0 : Option Value) (a0 : Int32) (q : Nat) (σ : dS) : den mX7_kindNow 106 [l0] [.int a0, .ref q] σ = if disO σ q 6 = true then ((dcall mX7_byteAt [.ref q, .int a0] σ).bind fun r => den mX7_kindNow 109 [l0] (r.1.toList ++ []) r.2) else none := by
  by_cases h : disO σ q 6 = true
  · rw [if_pos h]; exact dn_callV (e := (0, 109, 894)) (as := [.int a0]) (rest := []) eX7_kindNow dX7_kindNow_106 (by decide +kernel) rfl (by decide +kernel) rfl (dcat_le rfl) (dlen_le rfl) rfl h
  · rw [if_neg h]; exact den_noV (e := (0, 109, 894)) (as := [.int a0]) (rest := []) eX7_kindNow dX7_kindNow_106 (by decide +kernel) rfl rfl rfl h
theorem rX7_kindNow_121 (l0 : Option Value) (a0 : Int32) (q : Nat) (σ : dS) : den mX7_kindNow 121 [l0] [.int a0, .ref q] σ = if disO σ q 6 = true then ((dcall mX7_byteAt [.ref q, .int a0] σ).bind fun r => den mX7_kindNow 124 [l0] (r.1.toList ++ []) r.2) else none := by
  by_cases h : disO σ q 6 = true
  · rw [if_pos h]; exact dn_callV (e := (0, 109, 894)) (as := [.int a0]) (rest := []) eX7_kindNow dX7_kindNow_121 (by decide +kernel) rfl (by decide +kernel) rfl (dcat_le rfl) (dlen_le rfl) rfl h
  · rw [if_neg h]; exact den_noV (e := (0, 109, 894)) (as := [.int a0]) (rest := []) eX7_kindNow dX7_kindNow_121 (by decide +kernel) rfl rfl rfl h
set_option maxRecDepth 20000 in
theorem SX7_kindNow_0 : (∀ (x : Nat) (st : List Value) (σ : dS), den mX7_kindNow 0 [some (.ref x)] st σ = den mX7_kindNow 1 [some (.ref x)] (.ref x :: st) σ) ∧
  (∀ (l0 : Option Value) (q : Nat) (st : List Value) (σ : dS), den mX7_kindNow 1 [l0] (.ref q :: st) σ = (dget σ q 6 8).bind fun v => den mX7_kindNow 4 [l0] (v :: st) σ) ∧
  (∀ (l0 : Option Value) (st : List Value) (σ : dS), den mX7_kindNow 4 [l0] st σ = den mX7_kindNow 5 [l0] (.int (nI 1) :: st) σ) ∧
  (∀ (l0 : Option Value) (x y : Int32) (st : List Value) (σ : dS), den mX7_kindNow 5 [l0] (.int y :: .int x :: st) σ = if x = y then den mX7_kindNow 11 [l0] st σ else den mX7_kindNow 8 [l0] st σ) ∧
  (∀ (l0 : Option Value) (st : List Value) (σ : dS), den mX7_kindNow 8 [l0] st σ = den mX7_kindNow 10 [l0] (.int ((-4)) :: st) σ) ∧
  (∀ (l0 : Option Value) (v : Int32) (σ : dS), den mX7_kindNow 10 [l0] [.int v] σ = some (some (.int v), σ)) ∧
  (∀ (x : Nat) (st : List Value) (σ : dS), den mX7_kindNow 11 [some (.ref x)] st σ = den mX7_kindNow 12 [some (.ref x)] (.ref x :: st) σ) ∧
  (∀ (l0 : Option Value) (st : List Value) (σ : dS), den mX7_kindNow 12 [l0] st σ = den mX7_kindNow 14 [l0] (.int (nI 112) :: st) σ) ∧
  (∀ (l0 : Option Value) (st : List Value) (σ : dS), den mX7_kindNow 14 [l0] st σ = den mX7_kindNow 16 [l0] (.int (nI 117) :: st) σ) ∧
  (∀ (l0 : Option Value) (st : List Value) (σ : dS), den mX7_kindNow 16 [l0] st σ = den mX7_kindNow 18 [l0] (.int (nI 116) :: st) σ) ∧
  (∀ (l0 : Option Value) (a0 : Int32) (a1 : Int32) (a2 : Int32) (q : Nat) (σ : dS), den mX7_kindNow 18 [l0] [.int a2, .int a1, .int a0, .ref q] σ = if disO σ q 6 = true then ((dcall mX7_is [.ref q, .int a0, .int a1, .int a2] σ).bind fun r => den mX7_kindNow 21 [l0] (r.1.toList ++ []) r.2) else none) ∧
  (∀ (l0 : Option Value) (x : Int32) (st : List Value) (σ : dS), den mX7_kindNow 21 [l0] (.int x :: st) σ = if x = 0 then den mX7_kindNow 26 [l0] st σ else den mX7_kindNow 24 [l0] st σ) ∧
  (∀ (l0 : Option Value) (st : List Value) (σ : dS), den mX7_kindNow 24 [l0] st σ = den mX7_kindNow 25 [l0] (.int (nI 0) :: st) σ) ∧
  (∀ (l0 : Option Value) (v : Int32) (σ : dS), den mX7_kindNow 25 [l0] [.int v] σ = some (some (.int v), σ)) ∧
  (∀ (x : Nat) (st : List Value) (σ : dS), den mX7_kindNow 26 [some (.ref x)] st σ = den mX7_kindNow 27 [some (.ref x)] (.ref x :: st) σ) ∧
  (∀ (l0 : Option Value) (st : List Value) (σ : dS), den mX7_kindNow 27 [l0] st σ = den mX7_kindNow 29 [l0] (.int (nI 97) :: st) σ) ∧
  (∀ (l0 : Option Value) (st : List Value) (σ : dS), den mX7_kindNow 29 [l0] st σ = den mX7_kindNow 31 [l0] (.int (nI 100) :: st) σ) ∧
  (∀ (l0 : Option Value) (st : List Value) (σ : dS), den mX7_kindNow 31 [l0] st σ = den mX7_kindNow 33 [l0] (.int (nI 100) :: st) σ) ∧
  (∀ (l0 : Option Value) (a0 : Int32) (a1 : Int32) (a2 : Int32) (q : Nat) (σ : dS), den mX7_kindNow 33 [l0] [.int a2, .int a1, .int a0, .ref q] σ = if disO σ q 6 = true then ((dcall mX7_is [.ref q, .int a0, .int a1, .int a2] σ).bind fun r => den mX7_kindNow 36 [l0] (r.1.toList ++ []) r.2) else none) ∧
  (∀ (l0 : Option Value) (x : Int32) (st : List Value) (σ : dS), den mX7_kindNow 36 [l0] (.int x :: st) σ = if x = 0 then den mX7_kindNow 41 [l0] st σ else den mX7_kindNow 39 [l0] st σ) ∧
  (∀ (l0 : Option Value) (st : List Value) (σ : dS), den mX7_kindNow 39 [l0] st σ = den mX7_kindNow 40 [l0] (.int (nI 1) :: st) σ) ∧
  (∀ (l0 : Option Value) (v : Int32) (σ : dS), den mX7_kindNow 40 [l0] [.int v] σ = some (some (.int v), σ)) ∧
  (∀ (x : Nat) (st : List Value) (σ : dS), den mX7_kindNow 41 [some (.ref x)] st σ = den mX7_kindNow 42 [some (.ref x)] (.ref x :: st) σ) ∧
  (∀ (l0 : Option Value) (st : List Value) (σ : dS), den mX7_kindNow 42 [l0] st σ = den mX7_kindNow 44 [l0] (.int (nI 115) :: st) σ) ∧
  (∀ (l0 : Option Value) (st : List Value) (σ : dS), den mX7_kindNow 44 [l0] st σ = den mX7_kindNow 46 [l0] (.int (nI 117) :: st) σ) ∧
  (∀ (l0 : Option Value) (st : List Value) (σ : dS), den mX7_kindNow 46 [l0] st σ = den mX7_kindNow 48 [l0] (.int (nI 98) :: st) σ) ∧
  (∀ (l0 : Option Value) (a0 : Int32) (a1 : Int32) (a2 : Int32) (q : Nat) (σ : dS), den mX7_kindNow 48 [l0] [.int a2, .int a1, .int a0, .ref q] σ = if disO σ q 6 = true then ((dcall mX7_is [.ref q, .int a0, .int a1, .int a2] σ).bind fun r => den mX7_kindNow 51 [l0] (r.1.toList ++ []) r.2) else none) ∧
  (∀ (l0 : Option Value) (x : Int32) (st : List Value) (σ : dS), den mX7_kindNow 51 [l0] (.int x :: st) σ = if x = 0 then den mX7_kindNow 56 [l0] st σ else den mX7_kindNow 54 [l0] st σ) ∧
  (∀ (l0 : Option Value) (st : List Value) (σ : dS), den mX7_kindNow 54 [l0] st σ = den mX7_kindNow 55 [l0] (.int (nI 2) :: st) σ) ∧
  (∀ (l0 : Option Value) (v : Int32) (σ : dS), den mX7_kindNow 55 [l0] [.int v] σ = some (some (.int v), σ)) ∧
  (∀ (x : Nat) (st : List Value) (σ : dS), den mX7_kindNow 56 [some (.ref x)] st σ = den mX7_kindNow 57 [some (.ref x)] (.ref x :: st) σ) ∧
  (∀ (l0 : Option Value) (st : List Value) (σ : dS), den mX7_kindNow 57 [l0] st σ = den mX7_kindNow 59 [l0] (.int (nI 109) :: st) σ) ∧
  (∀ (l0 : Option Value) (st : List Value) (σ : dS), den mX7_kindNow 59 [l0] st σ = den mX7_kindNow 61 [l0] (.int (nI 117) :: st) σ) ∧
  (∀ (l0 : Option Value) (st : List Value) (σ : dS), den mX7_kindNow 61 [l0] st σ = den mX7_kindNow 63 [l0] (.int (nI 108) :: st) σ) ∧
  (∀ (l0 : Option Value) (a0 : Int32) (a1 : Int32) (a2 : Int32) (q : Nat) (σ : dS), den mX7_kindNow 63 [l0] [.int a2, .int a1, .int a0, .ref q] σ = if disO σ q 6 = true then ((dcall mX7_is [.ref q, .int a0, .int a1, .int a2] σ).bind fun r => den mX7_kindNow 66 [l0] (r.1.toList ++ []) r.2) else none) ∧
  (∀ (l0 : Option Value) (x : Int32) (st : List Value) (σ : dS), den mX7_kindNow 66 [l0] (.int x :: st) σ = if x = 0 then den mX7_kindNow 71 [l0] st σ else den mX7_kindNow 69 [l0] st σ) ∧
  (∀ (l0 : Option Value) (st : List Value) (σ : dS), den mX7_kindNow 69 [l0] st σ = den mX7_kindNow 70 [l0] (.int (nI 3) :: st) σ) ∧
  (∀ (l0 : Option Value) (v : Int32) (σ : dS), den mX7_kindNow 70 [l0] [.int v] σ = some (some (.int v), σ)) ∧
  (∀ (x : Nat) (st : List Value) (σ : dS), den mX7_kindNow 71 [some (.ref x)] st σ = den mX7_kindNow 72 [some (.ref x)] (.ref x :: st) σ) ∧
  (∀ (l0 : Option Value) (st : List Value) (σ : dS), den mX7_kindNow 72 [l0] st σ = den mX7_kindNow 74 [l0] (.int (nI 100) :: st) σ) :=
  ⟨fun x st σ => dn_aload_n eX7_kindNow dX7_kindNow_0 rfl,
  fun l0 q st σ => dn_getfield (f := (6, 8, 779)) eX7_kindNow dX7_kindNow_1 (by decide +kernel),
  fun l0 st σ => dn_iconst eX7_kindNow dX7_kindNow_4 kc_iconst_1,
  fun l0 x y st σ => dn_icmp_eq eX7_kindNow dX7_kindNow_5 (by decide),
  fun l0 st σ => dn_bipush eX7_kindNow dX7_kindNow_8 kc_bipush_m4,
  fun l0 v σ => dn_ireturn eX7_kindNow dX7_kindNow_10 rfl,
  fun x st σ => dn_aload_n eX7_kindNow dX7_kindNow_11 rfl,
  fun l0 st σ => dn_bipush eX7_kindNow dX7_kindNow_12 kc_bipush_112,
  fun l0 st σ => dn_bipush eX7_kindNow dX7_kindNow_14 kc_bipush_117,
  fun l0 st σ => dn_bipush eX7_kindNow dX7_kindNow_16 kc_bipush_116,
  fun l0 a0 a1 a2 q σ => rX7_kindNow_18 l0 a0 a1 a2 q σ,
  fun l0 x st σ => dn_if_eq eX7_kindNow dX7_kindNow_21 (by decide),
  fun l0 st σ => dn_iconst eX7_kindNow dX7_kindNow_24 kc_iconst_0,
  fun l0 v σ => dn_ireturn eX7_kindNow dX7_kindNow_25 rfl,
  fun x st σ => dn_aload_n eX7_kindNow dX7_kindNow_26 rfl,
  fun l0 st σ => dn_bipush eX7_kindNow dX7_kindNow_27 kc_bipush_97,
  fun l0 st σ => dn_bipush eX7_kindNow dX7_kindNow_29 kc_bipush_100,
  fun l0 st σ => dn_bipush eX7_kindNow dX7_kindNow_31 kc_bipush_100,
  fun l0 a0 a1 a2 q σ => rX7_kindNow_33 l0 a0 a1 a2 q σ,
  fun l0 x st σ => dn_if_eq eX7_kindNow dX7_kindNow_36 (by decide),
  fun l0 st σ => dn_iconst eX7_kindNow dX7_kindNow_39 kc_iconst_1,
  fun l0 v σ => dn_ireturn eX7_kindNow dX7_kindNow_40 rfl,
  fun x st σ => dn_aload_n eX7_kindNow dX7_kindNow_41 rfl,
  fun l0 st σ => dn_bipush eX7_kindNow dX7_kindNow_42 kc_bipush_115,
  fun l0 st σ => dn_bipush eX7_kindNow dX7_kindNow_44 kc_bipush_117,
  fun l0 st σ => dn_bipush eX7_kindNow dX7_kindNow_46 kc_bipush_98,
  fun l0 a0 a1 a2 q σ => rX7_kindNow_48 l0 a0 a1 a2 q σ,
  fun l0 x st σ => dn_if_eq eX7_kindNow dX7_kindNow_51 (by decide),
  fun l0 st σ => dn_iconst eX7_kindNow dX7_kindNow_54 kc_iconst_2,
  fun l0 v σ => dn_ireturn eX7_kindNow dX7_kindNow_55 rfl,
  fun x st σ => dn_aload_n eX7_kindNow dX7_kindNow_56 rfl,
  fun l0 st σ => dn_bipush eX7_kindNow dX7_kindNow_57 kc_bipush_109,
  fun l0 st σ => dn_bipush eX7_kindNow dX7_kindNow_59 kc_bipush_117,
  fun l0 st σ => dn_bipush eX7_kindNow dX7_kindNow_61 kc_bipush_108,
  fun l0 a0 a1 a2 q σ => rX7_kindNow_63 l0 a0 a1 a2 q σ,
  fun l0 x st σ => dn_if_eq eX7_kindNow dX7_kindNow_66 (by decide),
  fun l0 st σ => dn_iconst eX7_kindNow dX7_kindNow_69 kc_iconst_3,
  fun l0 v σ => dn_ireturn eX7_kindNow dX7_kindNow_70 rfl,
  fun x st σ => dn_aload_n eX7_kindNow dX7_kindNow_71 rfl,
  fun l0 st σ => dn_bipush eX7_kindNow dX7_kindNow_72 kc_bipush_100⟩
set_option maxRecDepth 20000 in
theorem SX7_kindNow_1 : (∀ (l0 : Option Value) (st : List Value) (σ : dS), den mX7_kindNow 74 [l0] st σ = den mX7_kindNow 76 [l0] (.int (nI 105) :: st) σ) ∧
  (∀ (l0 : Option Value) (st : List Value) (σ : dS), den mX7_kindNow 76 [l0] st σ = den mX7_kindNow 78 [l0] (.int (nI 118) :: st) σ) ∧
  (∀ (l0 : Option Value) (a0 : Int32) (a1 : Int32) (a2 : Int32) (q : Nat) (σ : dS), den mX7_kindNow 78 [l0] [.int a2, .int a1, .int a0, .ref q] σ = if disO σ q 6 = true then ((dcall mX7_is [.ref q, .int a0, .int a1, .int a2] σ).bind fun r => den mX7_kindNow 81 [l0] (r.1.toList ++ []) r.2) else none) ∧
  (∀ (l0 : Option Value) (x : Int32) (st : List Value) (σ : dS), den mX7_kindNow 81 [l0] (.int x :: st) σ = if x = 0 then den mX7_kindNow 88 [l0] st σ else den mX7_kindNow 84 [l0] st σ) ∧
  (∀ (l0 : Option Value) (st : List Value) (σ : dS), den mX7_kindNow 84 [l0] st σ = den mX7_kindNow 85 [l0] (.int (nI 4) :: st) σ) ∧
  (∀ (l0 : Option Value) (st : List Value) (σ : dS), den mX7_kindNow 85 [l0] st σ = den mX7_kindNow 135 [l0] st σ) ∧
  (∀ (x : Nat) (st : List Value) (σ : dS), den mX7_kindNow 88 [some (.ref x)] st σ = den mX7_kindNow 89 [some (.ref x)] (.ref x :: st) σ) ∧
  (∀ (l0 : Option Value) (q : Nat) (st : List Value) (σ : dS), den mX7_kindNow 89 [l0] (.ref q :: st) σ = (dget σ q 6 6).bind fun v => den mX7_kindNow 92 [l0] (v :: st) σ) ∧
  (∀ (x : Nat) (st : List Value) (σ : dS), den mX7_kindNow 92 [some (.ref x)] st σ = den mX7_kindNow 93 [some (.ref x)] (.ref x :: st) σ) ∧
  (∀ (l0 : Option Value) (q : Nat) (st : List Value) (σ : dS), den mX7_kindNow 93 [l0] (.ref q :: st) σ = (dget σ q 6 7).bind fun v => den mX7_kindNow 96 [l0] (v :: st) σ) ∧
  (∀ (l0 : Option Value) (x y : Int32) (st : List Value) (σ : dS), den mX7_kindNow 96 [l0] (.int y :: .int x :: st) σ = den mX7_kindNow 97 [l0] (.int (x - y) :: st) σ) ∧
  (∀ (l0 : Option Value) (st : List Value) (σ : dS), den mX7_kindNow 97 [l0] st σ = den mX7_kindNow 98 [l0] (.int (nI 2) :: st) σ) ∧
  (∀ (l0 : Option Value) (x y : Int32) (st : List Value) (σ : dS), den mX7_kindNow 98 [l0] (.int y :: .int x :: st) σ = if x = y then den mX7_kindNow 101 [l0] st σ else den mX7_kindNow 133 [l0] st σ) ∧
  (∀ (x : Nat) (st : List Value) (σ : dS), den mX7_kindNow 101 [some (.ref x)] st σ = den mX7_kindNow 102 [some (.ref x)] (.ref x :: st) σ) ∧
  (∀ (x : Nat) (st : List Value) (σ : dS), den mX7_kindNow 102 [some (.ref x)] st σ = den mX7_kindNow 103 [some (.ref x)] (.ref x :: st) σ) ∧
  (∀ (l0 : Option Value) (q : Nat) (st : List Value) (σ : dS), den mX7_kindNow 103 [l0] (.ref q :: st) σ = (dget σ q 6 7).bind fun v => den mX7_kindNow 106 [l0] (v :: st) σ) ∧
  (∀ (l0 : Option Value) (a0 : Int32) (q : Nat) (σ : dS), den mX7_kindNow 106 [l0] [.int a0, .ref q] σ = if disO σ q 6 = true then ((dcall mX7_byteAt [.ref q, .int a0] σ).bind fun r => den mX7_kindNow 109 [l0] (r.1.toList ++ []) r.2) else none) ∧
  (∀ (l0 : Option Value) (st : List Value) (σ : dS), den mX7_kindNow 109 [l0] st σ = den mX7_kindNow 111 [l0] (.int (nI 105) :: st) σ) ∧
  (∀ (l0 : Option Value) (x y : Int32) (st : List Value) (σ : dS), den mX7_kindNow 111 [l0] (.int y :: .int x :: st) σ = if x = y then den mX7_kindNow 114 [l0] st σ else den mX7_kindNow 133 [l0] st σ) ∧
  (∀ (x : Nat) (st : List Value) (σ : dS), den mX7_kindNow 114 [some (.ref x)] st σ = den mX7_kindNow 115 [some (.ref x)] (.ref x :: st) σ) ∧
  (∀ (x : Nat) (st : List Value) (σ : dS), den mX7_kindNow 115 [some (.ref x)] st σ = den mX7_kindNow 116 [some (.ref x)] (.ref x :: st) σ) ∧
  (∀ (l0 : Option Value) (q : Nat) (st : List Value) (σ : dS), den mX7_kindNow 116 [l0] (.ref q :: st) σ = (dget σ q 6 7).bind fun v => den mX7_kindNow 119 [l0] (v :: st) σ) ∧
  (∀ (l0 : Option Value) (st : List Value) (σ : dS), den mX7_kindNow 119 [l0] st σ = den mX7_kindNow 120 [l0] (.int (nI 1) :: st) σ) ∧
  (∀ (l0 : Option Value) (x y : Int32) (st : List Value) (σ : dS), den mX7_kindNow 120 [l0] (.int y :: .int x :: st) σ = den mX7_kindNow 121 [l0] (.int (x + y) :: st) σ) ∧
  (∀ (l0 : Option Value) (a0 : Int32) (q : Nat) (σ : dS), den mX7_kindNow 121 [l0] [.int a0, .ref q] σ = if disO σ q 6 = true then ((dcall mX7_byteAt [.ref q, .int a0] σ).bind fun r => den mX7_kindNow 124 [l0] (r.1.toList ++ []) r.2) else none) ∧
  (∀ (l0 : Option Value) (st : List Value) (σ : dS), den mX7_kindNow 124 [l0] st σ = den mX7_kindNow 126 [l0] (.int (nI 102) :: st) σ) ∧
  (∀ (l0 : Option Value) (x y : Int32) (st : List Value) (σ : dS), den mX7_kindNow 126 [l0] (.int y :: .int x :: st) σ = if x = y then den mX7_kindNow 129 [l0] st σ else den mX7_kindNow 133 [l0] st σ) ∧
  (∀ (l0 : Option Value) (st : List Value) (σ : dS), den mX7_kindNow 129 [l0] st σ = den mX7_kindNow 130 [l0] (.int (nI 5) :: st) σ) ∧
  (∀ (l0 : Option Value) (st : List Value) (σ : dS), den mX7_kindNow 130 [l0] st σ = den mX7_kindNow 135 [l0] st σ) ∧
  (∀ (l0 : Option Value) (st : List Value) (σ : dS), den mX7_kindNow 133 [l0] st σ = den mX7_kindNow 135 [l0] (.int ((-4)) :: st) σ) ∧
  (∀ (l0 : Option Value) (v : Int32) (σ : dS), den mX7_kindNow 135 [l0] [.int v] σ = some (some (.int v), σ)) :=
  ⟨fun l0 st σ => dn_bipush eX7_kindNow dX7_kindNow_74 kc_bipush_105,
  fun l0 st σ => dn_bipush eX7_kindNow dX7_kindNow_76 kc_bipush_118,
  fun l0 a0 a1 a2 q σ => rX7_kindNow_78 l0 a0 a1 a2 q σ,
  fun l0 x st σ => dn_if_eq eX7_kindNow dX7_kindNow_81 (by decide),
  fun l0 st σ => dn_iconst eX7_kindNow dX7_kindNow_84 kc_iconst_4,
  fun l0 st σ => dn_goto eX7_kindNow dX7_kindNow_85 (by decide),
  fun x st σ => dn_aload_n eX7_kindNow dX7_kindNow_88 rfl,
  fun l0 q st σ => dn_getfield (f := (6, 6, 777)) eX7_kindNow dX7_kindNow_89 (by decide +kernel),
  fun x st σ => dn_aload_n eX7_kindNow dX7_kindNow_92 rfl,
  fun l0 q st σ => dn_getfield (f := (6, 7, 778)) eX7_kindNow dX7_kindNow_93 (by decide +kernel),
  fun l0 x y st σ => dn_isub eX7_kindNow dX7_kindNow_96,
  fun l0 st σ => dn_iconst eX7_kindNow dX7_kindNow_97 kc_iconst_2,
  fun l0 x y st σ => dn_icmp_ne eX7_kindNow dX7_kindNow_98 (by decide),
  fun x st σ => dn_aload_n eX7_kindNow dX7_kindNow_101 rfl,
  fun x st σ => dn_aload_n eX7_kindNow dX7_kindNow_102 rfl,
  fun l0 q st σ => dn_getfield (f := (6, 7, 778)) eX7_kindNow dX7_kindNow_103 (by decide +kernel),
  fun l0 a0 q σ => rX7_kindNow_106 l0 a0 q σ,
  fun l0 st σ => dn_bipush eX7_kindNow dX7_kindNow_109 kc_bipush_105,
  fun l0 x y st σ => dn_icmp_ne eX7_kindNow dX7_kindNow_111 (by decide),
  fun x st σ => dn_aload_n eX7_kindNow dX7_kindNow_114 rfl,
  fun x st σ => dn_aload_n eX7_kindNow dX7_kindNow_115 rfl,
  fun l0 q st σ => dn_getfield (f := (6, 7, 778)) eX7_kindNow dX7_kindNow_116 (by decide +kernel),
  fun l0 st σ => dn_iconst eX7_kindNow dX7_kindNow_119 kc_iconst_1,
  fun l0 x y st σ => dn_iadd eX7_kindNow dX7_kindNow_120,
  fun l0 a0 q σ => rX7_kindNow_121 l0 a0 q σ,
  fun l0 st σ => dn_bipush eX7_kindNow dX7_kindNow_124 kc_bipush_102,
  fun l0 x y st σ => dn_icmp_ne eX7_kindNow dX7_kindNow_126 (by decide),
  fun l0 st σ => dn_iconst eX7_kindNow dX7_kindNow_129 kc_iconst_5,
  fun l0 st σ => dn_goto eX7_kindNow dX7_kindNow_130 (by decide),
  fun l0 st σ => dn_bipush eX7_kindNow dX7_kindNow_133 kc_bipush_m4,
  fun l0 v σ => dn_ireturn eX7_kindNow dX7_kindNow_135 rfl⟩
theorem CX7_reads (a0 : Nat) (σ : dS) : dcall mX7_reads [.ref a0] σ = den mX7_reads 0 [some (.ref a0), none] [] σ := dcall_den (by decide) rfl
theorem hX7_reads_8 (l1 : Option Value) (x : Nat) (st : List Value) (σ : dS) : den mX7_reads 8 [some (.ref x), l1] st σ = den mX7_reads 9 [some (.ref x), l1] (.ref x :: st) σ := dn_aload_n eX7_reads dX7_reads_8 rfl
theorem rX7_reads_13 (l0 l1 : Option Value) (a0 : Int32) (q : Nat) (σ : dS) : den mX7_reads 13 [l0, l1] [.int a0, .ref q] σ = if disO σ q 6 = true then ((dcall mX7_byteAt [.ref q, .int a0] σ).bind fun r => den mX7_reads 16 [l0, l1] (r.1.toList ++ []) r.2) else none := by
  by_cases h : disO σ q 6 = true
  · rw [if_pos h]; exact dn_callV (e := (0, 109, 894)) (as := [.int a0]) (rest := []) eX7_reads dX7_reads_13 (by decide +kernel) rfl (by decide +kernel) rfl (dcat_le rfl) (dlen_le rfl) rfl h
  · rw [if_neg h]; exact den_noV (e := (0, 109, 894)) (as := [.int a0]) (rest := []) eX7_reads dX7_reads_13 (by decide +kernel) rfl rfl rfl h
theorem rX7_reads_47 (l0 l1 : Option Value) (a0 : Int32) (q : Nat) (σ : dS) : den mX7_reads 47 [l0, l1] [.int a0, .ref q] σ = if disO σ q 6 = true then ((dcall mX7_byteAt [.ref q, .int a0] σ).bind fun r => den mX7_reads 50 [l0, l1] (r.1.toList ++ []) r.2) else none := by
  by_cases h : disO σ q 6 = true
  · rw [if_pos h]; exact dn_callV (e := (0, 109, 894)) (as := [.int a0]) (rest := []) eX7_reads dX7_reads_47 (by decide +kernel) rfl (by decide +kernel) rfl (dcat_le rfl) (dlen_le rfl) rfl h
  · rw [if_neg h]; exact den_noV (e := (0, 109, 894)) (as := [.int a0]) (rest := []) eX7_reads dX7_reads_47 (by decide +kernel) rfl rfl rfl h
theorem hX7_reads_82 (l1 : Option Value) (x : Nat) (st : List Value) (σ : dS) : den mX7_reads 82 [some (.ref x), l1] st σ = den mX7_reads 83 [some (.ref x), l1] (.ref x :: st) σ := dn_aload_n eX7_reads dX7_reads_82 rfl
theorem rX7_reads_87 (l0 l1 : Option Value) (a0 : Int32) (q : Nat) (σ : dS) : den mX7_reads 87 [l0, l1] [.int a0, .ref q] σ = if disO σ q 6 = true then ((dcall mX7_byteAt [.ref q, .int a0] σ).bind fun r => den mX7_reads 90 [l0, l1] (r.1.toList ++ []) r.2) else none := by
  by_cases h : disO σ q 6 = true
  · rw [if_pos h]; exact dn_callV (e := (0, 109, 894)) (as := [.int a0]) (rest := []) eX7_reads dX7_reads_87 (by decide +kernel) rfl (by decide +kernel) rfl (dcat_le rfl) (dlen_le rfl) rfl h
  · rw [if_neg h]; exact den_noV (e := (0, 109, 894)) (as := [.int a0]) (rest := []) eX7_reads dX7_reads_87 (by decide +kernel) rfl rfl rfl h
theorem hX7_reads_140 (l1 : Option Value) (x : Nat) (st : List Value) (σ : dS) : den mX7_reads 140 [some (.ref x), l1] st σ = den mX7_reads 141 [some (.ref x), l1] (.ref x :: st) σ := dn_aload_n eX7_reads dX7_reads_140 rfl
theorem rX7_reads_145 (l0 l1 : Option Value) (a0 : Int32) (q : Nat) (σ : dS) : den mX7_reads 145 [l0, l1] [.int a0, .ref q] σ = if disO σ q 6 = true then ((dcall mX7_byteAt [.ref q, .int a0] σ).bind fun r => den mX7_reads 148 [l0, l1] (r.1.toList ++ []) r.2) else none := by
  by_cases h : disO σ q 6 = true
  · rw [if_pos h]; exact dn_callV (e := (0, 109, 894)) (as := [.int a0]) (rest := []) eX7_reads dX7_reads_145 (by decide +kernel) rfl (by decide +kernel) rfl (dcat_le rfl) (dlen_le rfl) rfl h
  · rw [if_neg h]; exact den_noV (e := (0, 109, 894)) (as := [.int a0]) (rest := []) eX7_reads dX7_reads_145 (by decide +kernel) rfl rfl rfl h
theorem rX7_reads_187 (l0 l1 : Option Value) (a0 : Int32) (b0 : Int32) (b1 : Nat) (q : Nat) (σ : dS) : den mX7_reads 187 [l0, l1] [.int a0, .ref q, .int b0, .ref b1] σ = if disO σ q 6 = true then ((dcall mX7_byteAt [.ref q, .int a0] σ).bind fun r => den mX7_reads 190 [l0, l1] (r.1.toList ++ [.int b0, .ref b1]) r.2) else none := by
  by_cases h : disO σ q 6 = true
  · rw [if_pos h]; exact dn_callV (e := (0, 109, 894)) (as := [.int a0]) (rest := [.int b0, .ref b1]) eX7_reads dX7_reads_187 (by decide +kernel) rfl (by decide +kernel) rfl (dcat_le rfl) (dlen_le rfl) rfl h
  · rw [if_neg h]; exact den_noV (e := (0, 109, 894)) (as := [.int a0]) (rest := [.int b0, .ref b1]) eX7_reads dX7_reads_187 (by decide +kernel) rfl rfl rfl h
theorem rX7_reads_237 (l0 l1 : Option Value) (a0 : Int32) (a1 : Int32) (q : Nat) (σ : dS) : den mX7_reads 237 [l0, l1] [.int a1, .int a0, .ref q] σ = if disO σ q 6 = true then ((dcall mX7_requires [.ref q, .int a0, .int a1] σ).bind fun r => den mX7_reads 240 [l0, l1] (r.1.toList ++ []) r.2) else none := by
  by_cases h : disO σ q 6 = true
  · rw [if_pos h]; exact dn_callV (e := (0, 108, 902)) (as := [.int a0, .int a1]) (rest := []) eX7_reads dX7_reads_237 (by decide +kernel) rfl (by decide +kernel) rfl (dcat_le rfl) (dlen_le rfl) rfl h
  · rw [if_neg h]; exact den_noV (e := (0, 108, 902)) (as := [.int a0, .int a1]) (rest := []) eX7_reads dX7_reads_237 (by decide +kernel) rfl rfl rfl h
theorem rX7_reads_289 (l0 l1 : Option Value) (a0 : Int32) (a1 : Int32) (q : Nat) (σ : dS) : den mX7_reads 289 [l0, l1] [.int a1, .int a0, .ref q] σ = if disO σ q 6 = true then ((dcall mX7_requires [.ref q, .int a0, .int a1] σ).bind fun r => den mX7_reads 292 [l0, l1] (r.1.toList ++ []) r.2) else none := by
  by_cases h : disO σ q 6 = true
  · rw [if_pos h]; exact dn_callV (e := (0, 108, 902)) (as := [.int a0, .int a1]) (rest := []) eX7_reads dX7_reads_289 (by decide +kernel) rfl (by decide +kernel) rfl (dcat_le rfl) (dlen_le rfl) rfl h
  · rw [if_neg h]; exact den_noV (e := (0, 108, 902)) (as := [.int a0, .int a1]) (rest := []) eX7_reads dX7_reads_289 (by decide +kernel) rfl rfl rfl h
set_option maxRecDepth 20000 in
theorem SX7_reads_0 : (∀ (l1 : Option Value) (x : Nat) (st : List Value) (σ : dS), den mX7_reads 0 [some (.ref x), l1] st σ = den mX7_reads 1 [some (.ref x), l1] (.ref x :: st) σ) ∧
  (∀ (l0 l1 : Option Value) (q : Nat) (st : List Value) (σ : dS), den mX7_reads 1 [l0, l1] (.ref q :: st) σ = (dget σ q 6 10).bind fun v => den mX7_reads 4 [l0, l1] (v :: st) σ) ∧
  (∀ (l0 l1 : Option Value) (x : Int32) (st : List Value) (σ : dS), den mX7_reads 4 [l0, l1] (.int x :: st) σ = if 0 < x then den mX7_reads 7 [l0, l1] st σ else den mX7_reads 8 [l0, l1] st σ) ∧
  (∀ (l0 l1 : Option Value) (σ : dS), den mX7_reads 7 [l0, l1] [] σ = some (none, σ)) ∧
  (∀ (l1 : Option Value) (x : Nat) (st : List Value) (σ : dS), den mX7_reads 9 [some (.ref x), l1] st σ = den mX7_reads 10 [some (.ref x), l1] (.ref x :: st) σ) ∧
  (∀ (l0 l1 : Option Value) (q : Nat) (st : List Value) (σ : dS), den mX7_reads 10 [l0, l1] (.ref q :: st) σ = (dget σ q 6 6).bind fun v => den mX7_reads 13 [l0, l1] (v :: st) σ) ∧
  (∀ (l0 l1 : Option Value) (a0 : Int32) (q : Nat) (σ : dS), den mX7_reads 13 [l0, l1] [.int a0, .ref q] σ = if disO σ q 6 = true then ((dcall mX7_byteAt [.ref q, .int a0] σ).bind fun r => den mX7_reads 16 [l0, l1] (r.1.toList ++ []) r.2) else none) ∧
  (∀ (l0 l1 : Option Value) (st : List Value) (σ : dS), den mX7_reads 16 [l0, l1] st σ = den mX7_reads 18 [l0, l1] (.int (nI 32) :: st) σ) ∧
  (∀ (l0 l1 : Option Value) (x y : Int32) (st : List Value) (σ : dS), den mX7_reads 18 [l0, l1] (.int y :: .int x :: st) σ = if x = y then den mX7_reads 21 [l0, l1] st σ else den mX7_reads 34 [l0, l1] st σ) ∧
  (∀ (l1 : Option Value) (x : Nat) (st : List Value) (σ : dS), den mX7_reads 21 [some (.ref x), l1] st σ = den mX7_reads 22 [some (.ref x), l1] (.ref x :: st) σ) ∧
  (∀ (l0 l1 : Option Value) (x : Nat) (st : List Value) (σ : dS), den mX7_reads 22 [l0, l1] (.ref x :: st) σ = den mX7_reads 23 [l0, l1] (.ref x :: .ref x :: st) σ) ∧
  (∀ (l0 l1 : Option Value) (q : Nat) (st : List Value) (σ : dS), den mX7_reads 23 [l0, l1] (.ref q :: st) σ = (dget σ q 6 6).bind fun v => den mX7_reads 26 [l0, l1] (v :: st) σ) ∧
  (∀ (l0 l1 : Option Value) (st : List Value) (σ : dS), den mX7_reads 26 [l0, l1] st σ = den mX7_reads 27 [l0, l1] (.int (nI 1) :: st) σ) ∧
  (∀ (l0 l1 : Option Value) (x y : Int32) (st : List Value) (σ : dS), den mX7_reads 27 [l0, l1] (.int y :: .int x :: st) σ = den mX7_reads 28 [l0, l1] (.int (x + y) :: st) σ) ∧
  (∀ (l0 l1 : Option Value) (x : Int32) (q : Nat) (st : List Value) (σ : dS), den mX7_reads 28 [l0, l1] (.int x :: .ref q :: st) σ = (dput σ q 6 6 (.int x)).bind fun τ => den mX7_reads 31 [l0, l1] st τ) ∧
  (∀ (l0 l1 : Option Value) (st : List Value) (σ : dS), den mX7_reads 31 [l0, l1] st σ = den mX7_reads 8 [l0, l1] st σ) ∧
  (∀ (l1 : Option Value) (x : Nat) (st : List Value) (σ : dS), den mX7_reads 34 [some (.ref x), l1] st σ = den mX7_reads 35 [some (.ref x), l1] (.ref x :: st) σ) ∧
  (∀ (l1 : Option Value) (x : Nat) (st : List Value) (σ : dS), den mX7_reads 35 [some (.ref x), l1] st σ = den mX7_reads 36 [some (.ref x), l1] (.ref x :: st) σ) ∧
  (∀ (l0 l1 : Option Value) (q : Nat) (st : List Value) (σ : dS), den mX7_reads 36 [l0, l1] (.ref q :: st) σ = (dget σ q 6 6).bind fun v => den mX7_reads 39 [l0, l1] (v :: st) σ) ∧
  (∀ (l0 l1 : Option Value) (x : Int32) (q : Nat) (st : List Value) (σ : dS), den mX7_reads 39 [l0, l1] (.int x :: .ref q :: st) σ = (dput σ q 6 7 (.int x)).bind fun τ => den mX7_reads 42 [l0, l1] st τ) ∧
  (∀ (l1 : Option Value) (x : Nat) (st : List Value) (σ : dS), den mX7_reads 42 [some (.ref x), l1] st σ = den mX7_reads 43 [some (.ref x), l1] (.ref x :: st) σ) ∧
  (∀ (l1 : Option Value) (x : Nat) (st : List Value) (σ : dS), den mX7_reads 43 [some (.ref x), l1] st σ = den mX7_reads 44 [some (.ref x), l1] (.ref x :: st) σ) ∧
  (∀ (l0 l1 : Option Value) (q : Nat) (st : List Value) (σ : dS), den mX7_reads 44 [l0, l1] (.ref q :: st) σ = (dget σ q 6 6).bind fun v => den mX7_reads 47 [l0, l1] (v :: st) σ) ∧
  (∀ (l0 l1 : Option Value) (a0 : Int32) (q : Nat) (σ : dS), den mX7_reads 47 [l0, l1] [.int a0, .ref q] σ = if disO σ q 6 = true then ((dcall mX7_byteAt [.ref q, .int a0] σ).bind fun r => den mX7_reads 50 [l0, l1] (r.1.toList ++ []) r.2) else none) ∧
  (∀ (l1 : Option Value) (x : Int32) (y : Nat) (st : List Value) (σ : dS), den mX7_reads 50 [some (.ref y), l1] (.int x :: st) σ = den mX7_reads 51 [some (.ref y), some (.int x)] st σ) ∧
  (∀ (l0 : Option Value) (x : Int32) (st : List Value) (σ : dS), den mX7_reads 51 [l0, some (.int x)] st σ = den mX7_reads 52 [l0, some (.int x)] (.int x :: st) σ) ∧
  (∀ (l0 l1 : Option Value) (x : Int32) (st : List Value) (σ : dS), den mX7_reads 52 [l0, l1] (.int x :: st) σ = if x < 0 then den mX7_reads 55 [l0, l1] st σ else den mX7_reads 63 [l0, l1] st σ) ∧
  (∀ (l1 : Option Value) (x : Nat) (st : List Value) (σ : dS), den mX7_reads 55 [some (.ref x), l1] st σ = den mX7_reads 56 [some (.ref x), l1] (.ref x :: st) σ) ∧
  (∀ (l0 l1 : Option Value) (st : List Value) (σ : dS), den mX7_reads 56 [l0, l1] st σ = den mX7_reads 57 [l0, l1] (.int (nI 0) :: st) σ) ∧
  (∀ (l0 l1 : Option Value) (x : Int32) (q : Nat) (st : List Value) (σ : dS), den mX7_reads 57 [l0, l1] (.int x :: .ref q :: st) σ = (dput σ q 6 8 (.int x)).bind fun τ => den mX7_reads 60 [l0, l1] st τ) ∧
  (∀ (l0 l1 : Option Value) (st : List Value) (σ : dS), den mX7_reads 60 [l0, l1] st σ = den mX7_reads 302 [l0, l1] st σ) ∧
  (∀ (l0 : Option Value) (x : Int32) (st : List Value) (σ : dS), den mX7_reads 63 [l0, some (.int x)] st σ = den mX7_reads 64 [l0, some (.int x)] (.int x :: st) σ) ∧
  (∀ (l0 l1 : Option Value) (x : Int32) (st : List Value) (σ : dS), den mX7_reads 64 [l0, l1] (.int x :: st) σ = den mX7_reads 65 [l0, l1] (.long x.toInt64 :: st) σ) ∧
  (∀ (l0 l1 : Option Value) (st : List Value) (σ : dS), den mX7_reads 65 [l0, l1] st σ = den mX7_reads 68 [l0, l1] (.long (lN 97) :: st) σ) ∧
  (∀ (l0 l1 : Option Value) (st : List Value) (σ : dS), den mX7_reads 68 [l0, l1] st σ = den mX7_reads 71 [l0, l1] (.long (lN 122) :: st) σ) ∧
  (∀ (l0 l1 : Option Value) (a0 : Int64) (a1 : Int64) (a2 : Int64) (σ : dS), den mX7_reads 71 [l0, l1] [.long a2, .long a1, .long a0] σ = (dcall mX7_in [.long a0, .long a1, .long a2] σ).bind fun r => den mX7_reads 74 [l0, l1] (r.1.toList ++ []) r.2) ∧
  (∀ (l0 l1 : Option Value) (x : Int32) (st : List Value) (σ : dS), den mX7_reads 74 [l0, l1] (.int x :: st) σ = if x = 0 then den mX7_reads 116 [l0, l1] st σ else den mX7_reads 77 [l0, l1] st σ) ∧
  (∀ (l1 : Option Value) (x : Nat) (st : List Value) (σ : dS), den mX7_reads 77 [some (.ref x), l1] st σ = den mX7_reads 78 [some (.ref x), l1] (.ref x :: st) σ) ∧
  (∀ (l0 l1 : Option Value) (st : List Value) (σ : dS), den mX7_reads 78 [l0, l1] st σ = den mX7_reads 79 [l0, l1] (.int (nI 1) :: st) σ) ∧
  (∀ (l0 l1 : Option Value) (x : Int32) (q : Nat) (st : List Value) (σ : dS), den mX7_reads 79 [l0, l1] (.int x :: .ref q :: st) σ = (dput σ q 6 8 (.int x)).bind fun τ => den mX7_reads 82 [l0, l1] st τ) :=
  ⟨fun l1 x st σ => dn_aload_n eX7_reads dX7_reads_0 rfl,
  fun l0 l1 q st σ => dn_getfield (f := (6, 10, 781)) eX7_reads dX7_reads_1 (by decide +kernel),
  fun l0 l1 x st σ => dn_if_le eX7_reads dX7_reads_4 (by decide),
  fun l0 l1 σ => dn_return eX7_reads dX7_reads_7 rfl,
  fun l1 x st σ => dn_aload_n eX7_reads dX7_reads_9 rfl,
  fun l0 l1 q st σ => dn_getfield (f := (6, 6, 777)) eX7_reads dX7_reads_10 (by decide +kernel),
  fun l0 l1 a0 q σ => rX7_reads_13 l0 l1 a0 q σ,
  fun l0 l1 st σ => dn_bipush eX7_reads dX7_reads_16 kc_bipush_32,
  fun l0 l1 x y st σ => dn_icmp_ne eX7_reads dX7_reads_18 (by decide),
  fun l1 x st σ => dn_aload_n eX7_reads dX7_reads_21 rfl,
  fun l0 l1 x st σ => dn_dup eX7_reads dX7_reads_22 rfl,
  fun l0 l1 q st σ => dn_getfield (f := (6, 6, 777)) eX7_reads dX7_reads_23 (by decide +kernel),
  fun l0 l1 st σ => dn_iconst eX7_reads dX7_reads_26 kc_iconst_1,
  fun l0 l1 x y st σ => dn_iadd eX7_reads dX7_reads_27,
  fun l0 l1 x q st σ => dn_putfield (f := (6, 6, 777)) (ty := .int) eX7_reads dX7_reads_28 (by decide +kernel) (by decide +kernel) rfl,
  fun l0 l1 st σ => dn_goto eX7_reads dX7_reads_31 (by decide),
  fun l1 x st σ => dn_aload_n eX7_reads dX7_reads_34 rfl,
  fun l1 x st σ => dn_aload_n eX7_reads dX7_reads_35 rfl,
  fun l0 l1 q st σ => dn_getfield (f := (6, 6, 777)) eX7_reads dX7_reads_36 (by decide +kernel),
  fun l0 l1 x q st σ => dn_putfield (f := (6, 7, 778)) (ty := .int) eX7_reads dX7_reads_39 (by decide +kernel) (by decide +kernel) rfl,
  fun l1 x st σ => dn_aload_n eX7_reads dX7_reads_42 rfl,
  fun l1 x st σ => dn_aload_n eX7_reads dX7_reads_43 rfl,
  fun l0 l1 q st σ => dn_getfield (f := (6, 6, 777)) eX7_reads dX7_reads_44 (by decide +kernel),
  fun l0 l1 a0 q σ => rX7_reads_47 l0 l1 a0 q σ,
  fun l1 x y st σ => dn_istore_n eX7_reads dX7_reads_50 rfl,
  fun l0 x st σ => dn_iload_n eX7_reads dX7_reads_51 rfl,
  fun l0 l1 x st σ => dn_if_ge eX7_reads dX7_reads_52 (by decide),
  fun l1 x st σ => dn_aload_n eX7_reads dX7_reads_55 rfl,
  fun l0 l1 st σ => dn_iconst eX7_reads dX7_reads_56 kc_iconst_0,
  fun l0 l1 x q st σ => dn_putfield (f := (6, 8, 779)) (ty := .int) eX7_reads dX7_reads_57 (by decide +kernel) (by decide +kernel) rfl,
  fun l0 l1 st σ => dn_goto eX7_reads dX7_reads_60 (by decide),
  fun l0 x st σ => dn_iload_n eX7_reads dX7_reads_63 rfl,
  fun l0 l1 x st σ => dn_i2l eX7_reads dX7_reads_64,
  fun l0 l1 st σ => dn_ldc2_w (w := 97) (p := 898) eX7_reads dX7_reads_65 (by decide +kernel) (by decide +kernel),
  fun l0 l1 st σ => dn_ldc2_w (w := 122) (p := 899) eX7_reads dX7_reads_68 (by decide +kernel) (by decide +kernel),
  fun l0 l1 a0 a1 a2 σ => dn_callS (e := (1, 102, 879)) (as := [.long a0, .long a1, .long a2]) (rest := []) eX7_reads dX7_reads_71 (by decide +kernel) (Or.inl rfl) (by decide +kernel) rfl (dcat_le rfl) (dlen_le rfl) rfl,
  fun l0 l1 x st σ => dn_if_eq eX7_reads dX7_reads_74 (by decide),
  fun l1 x st σ => dn_aload_n eX7_reads dX7_reads_77 rfl,
  fun l0 l1 st σ => dn_iconst eX7_reads dX7_reads_78 kc_iconst_1,
  fun l0 l1 x q st σ => dn_putfield (f := (6, 8, 779)) (ty := .int) eX7_reads dX7_reads_79 (by decide +kernel) (by decide +kernel) rfl⟩
set_option maxRecDepth 20000 in
theorem SX7_reads_1 : (∀ (l1 : Option Value) (x : Nat) (st : List Value) (σ : dS), den mX7_reads 83 [some (.ref x), l1] st σ = den mX7_reads 84 [some (.ref x), l1] (.ref x :: st) σ) ∧
  (∀ (l0 l1 : Option Value) (q : Nat) (st : List Value) (σ : dS), den mX7_reads 84 [l0, l1] (.ref q :: st) σ = (dget σ q 6 6).bind fun v => den mX7_reads 87 [l0, l1] (v :: st) σ) ∧
  (∀ (l0 l1 : Option Value) (a0 : Int32) (q : Nat) (σ : dS), den mX7_reads 87 [l0, l1] [.int a0, .ref q] σ = if disO σ q 6 = true then ((dcall mX7_byteAt [.ref q, .int a0] σ).bind fun r => den mX7_reads 90 [l0, l1] (r.1.toList ++ []) r.2) else none) ∧
  (∀ (l0 l1 : Option Value) (x : Int32) (st : List Value) (σ : dS), den mX7_reads 90 [l0, l1] (.int x :: st) σ = den mX7_reads 91 [l0, l1] (.long x.toInt64 :: st) σ) ∧
  (∀ (l0 l1 : Option Value) (st : List Value) (σ : dS), den mX7_reads 91 [l0, l1] st σ = den mX7_reads 94 [l0, l1] (.long (lN 97) :: st) σ) ∧
  (∀ (l0 l1 : Option Value) (st : List Value) (σ : dS), den mX7_reads 94 [l0, l1] st σ = den mX7_reads 97 [l0, l1] (.long (lN 122) :: st) σ) ∧
  (∀ (l0 l1 : Option Value) (a0 : Int64) (a1 : Int64) (a2 : Int64) (σ : dS), den mX7_reads 97 [l0, l1] [.long a2, .long a1, .long a0] σ = (dcall mX7_in [.long a0, .long a1, .long a2] σ).bind fun r => den mX7_reads 100 [l0, l1] (r.1.toList ++ []) r.2) ∧
  (∀ (l0 l1 : Option Value) (x : Int32) (st : List Value) (σ : dS), den mX7_reads 100 [l0, l1] (.int x :: st) σ = if x = 0 then den mX7_reads 302 [l0, l1] st σ else den mX7_reads 103 [l0, l1] st σ) ∧
  (∀ (l1 : Option Value) (x : Nat) (st : List Value) (σ : dS), den mX7_reads 103 [some (.ref x), l1] st σ = den mX7_reads 104 [some (.ref x), l1] (.ref x :: st) σ) ∧
  (∀ (l0 l1 : Option Value) (x : Nat) (st : List Value) (σ : dS), den mX7_reads 104 [l0, l1] (.ref x :: st) σ = den mX7_reads 105 [l0, l1] (.ref x :: .ref x :: st) σ) ∧
  (∀ (l0 l1 : Option Value) (q : Nat) (st : List Value) (σ : dS), den mX7_reads 105 [l0, l1] (.ref q :: st) σ = (dget σ q 6 6).bind fun v => den mX7_reads 108 [l0, l1] (v :: st) σ) ∧
  (∀ (l0 l1 : Option Value) (st : List Value) (σ : dS), den mX7_reads 108 [l0, l1] st σ = den mX7_reads 109 [l0, l1] (.int (nI 1) :: st) σ) ∧
  (∀ (l0 l1 : Option Value) (x y : Int32) (st : List Value) (σ : dS), den mX7_reads 109 [l0, l1] (.int y :: .int x :: st) σ = den mX7_reads 110 [l0, l1] (.int (x + y) :: st) σ) ∧
  (∀ (l0 l1 : Option Value) (x : Int32) (q : Nat) (st : List Value) (σ : dS), den mX7_reads 110 [l0, l1] (.int x :: .ref q :: st) σ = (dput σ q 6 6 (.int x)).bind fun τ => den mX7_reads 113 [l0, l1] st τ) ∧
  (∀ (l0 l1 : Option Value) (st : List Value) (σ : dS), den mX7_reads 113 [l0, l1] st σ = den mX7_reads 82 [l0, l1] st σ) ∧
  (∀ (l0 : Option Value) (x : Int32) (st : List Value) (σ : dS), den mX7_reads 116 [l0, some (.int x)] st σ = den mX7_reads 117 [l0, some (.int x)] (.int x :: st) σ) ∧
  (∀ (l0 l1 : Option Value) (x : Int32) (st : List Value) (σ : dS), den mX7_reads 117 [l0, l1] (.int x :: st) σ = den mX7_reads 118 [l0, l1] (.long x.toInt64 :: st) σ) ∧
  (∀ (l0 l1 : Option Value) (st : List Value) (σ : dS), den mX7_reads 118 [l0, l1] st σ = den mX7_reads 121 [l0, l1] (.long (lN 48) :: st) σ) ∧
  (∀ (l0 l1 : Option Value) (st : List Value) (σ : dS), den mX7_reads 121 [l0, l1] st σ = den mX7_reads 124 [l0, l1] (.long (lN 57) :: st) σ) ∧
  (∀ (l0 l1 : Option Value) (a0 : Int64) (a1 : Int64) (a2 : Int64) (σ : dS), den mX7_reads 124 [l0, l1] [.long a2, .long a1, .long a0] σ = (dcall mX7_in [.long a0, .long a1, .long a2] σ).bind fun r => den mX7_reads 127 [l0, l1] (r.1.toList ++ []) r.2) ∧
  (∀ (l0 l1 : Option Value) (x : Int32) (st : List Value) (σ : dS), den mX7_reads 127 [l0, l1] (.int x :: st) σ = if x = 0 then den mX7_reads 243 [l0, l1] st σ else den mX7_reads 130 [l0, l1] st σ) ∧
  (∀ (l1 : Option Value) (x : Nat) (st : List Value) (σ : dS), den mX7_reads 130 [some (.ref x), l1] st σ = den mX7_reads 131 [some (.ref x), l1] (.ref x :: st) σ) ∧
  (∀ (l0 l1 : Option Value) (st : List Value) (σ : dS), den mX7_reads 131 [l0, l1] st σ = den mX7_reads 132 [l0, l1] (.int (nI 2) :: st) σ) ∧
  (∀ (l0 l1 : Option Value) (x : Int32) (q : Nat) (st : List Value) (σ : dS), den mX7_reads 132 [l0, l1] (.int x :: .ref q :: st) σ = (dput σ q 6 8 (.int x)).bind fun τ => den mX7_reads 135 [l0, l1] st τ) ∧
  (∀ (l1 : Option Value) (x : Nat) (st : List Value) (σ : dS), den mX7_reads 135 [some (.ref x), l1] st σ = den mX7_reads 136 [some (.ref x), l1] (.ref x :: st) σ) ∧
  (∀ (l0 l1 : Option Value) (st : List Value) (σ : dS), den mX7_reads 136 [l0, l1] st σ = den mX7_reads 137 [l0, l1] (.int (nI 0) :: st) σ) ∧
  (∀ (l0 l1 : Option Value) (x : Int32) (q : Nat) (st : List Value) (σ : dS), den mX7_reads 137 [l0, l1] (.int x :: .ref q :: st) σ = (dput σ q 6 9 (.int x)).bind fun τ => den mX7_reads 140 [l0, l1] st τ) ∧
  (∀ (l1 : Option Value) (x : Nat) (st : List Value) (σ : dS), den mX7_reads 141 [some (.ref x), l1] st σ = den mX7_reads 142 [some (.ref x), l1] (.ref x :: st) σ) ∧
  (∀ (l0 l1 : Option Value) (q : Nat) (st : List Value) (σ : dS), den mX7_reads 142 [l0, l1] (.ref q :: st) σ = (dget σ q 6 6).bind fun v => den mX7_reads 145 [l0, l1] (v :: st) σ) ∧
  (∀ (l0 l1 : Option Value) (a0 : Int32) (q : Nat) (σ : dS), den mX7_reads 145 [l0, l1] [.int a0, .ref q] σ = if disO σ q 6 = true then ((dcall mX7_byteAt [.ref q, .int a0] σ).bind fun r => den mX7_reads 148 [l0, l1] (r.1.toList ++ []) r.2) else none) ∧
  (∀ (l0 l1 : Option Value) (x : Int32) (st : List Value) (σ : dS), den mX7_reads 148 [l0, l1] (.int x :: st) σ = den mX7_reads 149 [l0, l1] (.long x.toInt64 :: st) σ) ∧
  (∀ (l0 l1 : Option Value) (st : List Value) (σ : dS), den mX7_reads 149 [l0, l1] st σ = den mX7_reads 152 [l0, l1] (.long (lN 48) :: st) σ) ∧
  (∀ (l0 l1 : Option Value) (st : List Value) (σ : dS), den mX7_reads 152 [l0, l1] st σ = den mX7_reads 155 [l0, l1] (.long (lN 57) :: st) σ) ∧
  (∀ (l0 l1 : Option Value) (a0 : Int64) (a1 : Int64) (a2 : Int64) (σ : dS), den mX7_reads 155 [l0, l1] [.long a2, .long a1, .long a0] σ = (dcall mX7_in [.long a0, .long a1, .long a2] σ).bind fun r => den mX7_reads 158 [l0, l1] (r.1.toList ++ []) r.2) ∧
  (∀ (l0 l1 : Option Value) (x : Int32) (st : List Value) (σ : dS), den mX7_reads 158 [l0, l1] (.int x :: st) σ = if x = 0 then den mX7_reads 217 [l0, l1] st σ else den mX7_reads 161 [l0, l1] st σ) ∧
  (∀ (l1 : Option Value) (x : Nat) (st : List Value) (σ : dS), den mX7_reads 161 [some (.ref x), l1] st σ = den mX7_reads 162 [some (.ref x), l1] (.ref x :: st) σ) ∧
  (∀ (l1 : Option Value) (x : Nat) (st : List Value) (σ : dS), den mX7_reads 162 [some (.ref x), l1] st σ = den mX7_reads 163 [some (.ref x), l1] (.ref x :: st) σ) ∧
  (∀ (l0 l1 : Option Value) (q : Nat) (st : List Value) (σ : dS), den mX7_reads 163 [l0, l1] (.ref q :: st) σ = (dget σ q 6 6).bind fun v => den mX7_reads 166 [l0, l1] (v :: st) σ) ∧
  (∀ (l1 : Option Value) (x : Nat) (st : List Value) (σ : dS), den mX7_reads 166 [some (.ref x), l1] st σ = den mX7_reads 167 [some (.ref x), l1] (.ref x :: st) σ) ∧
  (∀ (l0 l1 : Option Value) (q : Nat) (st : List Value) (σ : dS), den mX7_reads 167 [l0, l1] (.ref q :: st) σ = (dget σ q 6 7).bind fun v => den mX7_reads 170 [l0, l1] (v :: st) σ) :=
  ⟨fun l1 x st σ => dn_aload_n eX7_reads dX7_reads_83 rfl,
  fun l0 l1 q st σ => dn_getfield (f := (6, 6, 777)) eX7_reads dX7_reads_84 (by decide +kernel),
  fun l0 l1 a0 q σ => rX7_reads_87 l0 l1 a0 q σ,
  fun l0 l1 x st σ => dn_i2l eX7_reads dX7_reads_90,
  fun l0 l1 st σ => dn_ldc2_w (w := 97) (p := 898) eX7_reads dX7_reads_91 (by decide +kernel) (by decide +kernel),
  fun l0 l1 st σ => dn_ldc2_w (w := 122) (p := 899) eX7_reads dX7_reads_94 (by decide +kernel) (by decide +kernel),
  fun l0 l1 a0 a1 a2 σ => dn_callS (e := (1, 102, 879)) (as := [.long a0, .long a1, .long a2]) (rest := []) eX7_reads dX7_reads_97 (by decide +kernel) (Or.inl rfl) (by decide +kernel) rfl (dcat_le rfl) (dlen_le rfl) rfl,
  fun l0 l1 x st σ => dn_if_eq eX7_reads dX7_reads_100 (by decide),
  fun l1 x st σ => dn_aload_n eX7_reads dX7_reads_103 rfl,
  fun l0 l1 x st σ => dn_dup eX7_reads dX7_reads_104 rfl,
  fun l0 l1 q st σ => dn_getfield (f := (6, 6, 777)) eX7_reads dX7_reads_105 (by decide +kernel),
  fun l0 l1 st σ => dn_iconst eX7_reads dX7_reads_108 kc_iconst_1,
  fun l0 l1 x y st σ => dn_iadd eX7_reads dX7_reads_109,
  fun l0 l1 x q st σ => dn_putfield (f := (6, 6, 777)) (ty := .int) eX7_reads dX7_reads_110 (by decide +kernel) (by decide +kernel) rfl,
  fun l0 l1 st σ => dn_goto eX7_reads dX7_reads_113 (by decide),
  fun l0 x st σ => dn_iload_n eX7_reads dX7_reads_116 rfl,
  fun l0 l1 x st σ => dn_i2l eX7_reads dX7_reads_117,
  fun l0 l1 st σ => dn_ldc2_w (w := 48) (p := 900) eX7_reads dX7_reads_118 (by decide +kernel) (by decide +kernel),
  fun l0 l1 st σ => dn_ldc2_w (w := 57) (p := 901) eX7_reads dX7_reads_121 (by decide +kernel) (by decide +kernel),
  fun l0 l1 a0 a1 a2 σ => dn_callS (e := (1, 102, 879)) (as := [.long a0, .long a1, .long a2]) (rest := []) eX7_reads dX7_reads_124 (by decide +kernel) (Or.inl rfl) (by decide +kernel) rfl (dcat_le rfl) (dlen_le rfl) rfl,
  fun l0 l1 x st σ => dn_if_eq eX7_reads dX7_reads_127 (by decide),
  fun l1 x st σ => dn_aload_n eX7_reads dX7_reads_130 rfl,
  fun l0 l1 st σ => dn_iconst eX7_reads dX7_reads_131 kc_iconst_2,
  fun l0 l1 x q st σ => dn_putfield (f := (6, 8, 779)) (ty := .int) eX7_reads dX7_reads_132 (by decide +kernel) (by decide +kernel) rfl,
  fun l1 x st σ => dn_aload_n eX7_reads dX7_reads_135 rfl,
  fun l0 l1 st σ => dn_iconst eX7_reads dX7_reads_136 kc_iconst_0,
  fun l0 l1 x q st σ => dn_putfield (f := (6, 9, 780)) (ty := .int) eX7_reads dX7_reads_137 (by decide +kernel) (by decide +kernel) rfl,
  fun l1 x st σ => dn_aload_n eX7_reads dX7_reads_141 rfl,
  fun l0 l1 q st σ => dn_getfield (f := (6, 6, 777)) eX7_reads dX7_reads_142 (by decide +kernel),
  fun l0 l1 a0 q σ => rX7_reads_145 l0 l1 a0 q σ,
  fun l0 l1 x st σ => dn_i2l eX7_reads dX7_reads_148,
  fun l0 l1 st σ => dn_ldc2_w (w := 48) (p := 900) eX7_reads dX7_reads_149 (by decide +kernel) (by decide +kernel),
  fun l0 l1 st σ => dn_ldc2_w (w := 57) (p := 901) eX7_reads dX7_reads_152 (by decide +kernel) (by decide +kernel),
  fun l0 l1 a0 a1 a2 σ => dn_callS (e := (1, 102, 879)) (as := [.long a0, .long a1, .long a2]) (rest := []) eX7_reads dX7_reads_155 (by decide +kernel) (Or.inl rfl) (by decide +kernel) rfl (dcat_le rfl) (dlen_le rfl) rfl,
  fun l0 l1 x st σ => dn_if_eq eX7_reads dX7_reads_158 (by decide),
  fun l1 x st σ => dn_aload_n eX7_reads dX7_reads_161 rfl,
  fun l1 x st σ => dn_aload_n eX7_reads dX7_reads_162 rfl,
  fun l0 l1 q st σ => dn_getfield (f := (6, 6, 777)) eX7_reads dX7_reads_163 (by decide +kernel),
  fun l1 x st σ => dn_aload_n eX7_reads dX7_reads_166 rfl,
  fun l0 l1 q st σ => dn_getfield (f := (6, 7, 778)) eX7_reads dX7_reads_167 (by decide +kernel)⟩
set_option maxRecDepth 20000 in
theorem SX7_reads_2 : (∀ (l0 l1 : Option Value) (x y : Int32) (st : List Value) (σ : dS), den mX7_reads 170 [l0, l1] (.int y :: .int x :: st) σ = den mX7_reads 171 [l0, l1] (.int (x - y) :: st) σ) ∧
  (∀ (l0 l1 : Option Value) (st : List Value) (σ : dS), den mX7_reads 171 [l0, l1] st σ = den mX7_reads 172 [l0, l1] (.int (nI 2) :: st) σ) ∧
  (∀ (l0 l1 : Option Value) (x y : Int32) (st : List Value) (σ : dS), den mX7_reads 172 [l0, l1] (.int y :: .int x :: st) σ = if x < y then den mX7_reads 175 [l0, l1] st σ else den mX7_reads 197 [l0, l1] st σ) ∧
  (∀ (l0 l1 : Option Value) (st : List Value) (σ : dS), den mX7_reads 175 [l0, l1] st σ = den mX7_reads 177 [l0, l1] (.int (nI 10) :: st) σ) ∧
  (∀ (l1 : Option Value) (x : Nat) (st : List Value) (σ : dS), den mX7_reads 177 [some (.ref x), l1] st σ = den mX7_reads 178 [some (.ref x), l1] (.ref x :: st) σ) ∧
  (∀ (l0 l1 : Option Value) (q : Nat) (st : List Value) (σ : dS), den mX7_reads 178 [l0, l1] (.ref q :: st) σ = (dget σ q 6 9).bind fun v => den mX7_reads 181 [l0, l1] (v :: st) σ) ∧
  (∀ (l0 l1 : Option Value) (x y : Int32) (st : List Value) (σ : dS), den mX7_reads 181 [l0, l1] (.int y :: .int x :: st) σ = den mX7_reads 182 [l0, l1] (.int (x * y) :: st) σ) ∧
  (∀ (l1 : Option Value) (x : Nat) (st : List Value) (σ : dS), den mX7_reads 182 [some (.ref x), l1] st σ = den mX7_reads 183 [some (.ref x), l1] (.ref x :: st) σ) ∧
  (∀ (l1 : Option Value) (x : Nat) (st : List Value) (σ : dS), den mX7_reads 183 [some (.ref x), l1] st σ = den mX7_reads 184 [some (.ref x), l1] (.ref x :: st) σ) ∧
  (∀ (l0 l1 : Option Value) (q : Nat) (st : List Value) (σ : dS), den mX7_reads 184 [l0, l1] (.ref q :: st) σ = (dget σ q 6 6).bind fun v => den mX7_reads 187 [l0, l1] (v :: st) σ) ∧
  (∀ (l0 l1 : Option Value) (a0 : Int32) (b0 : Int32) (b1 : Nat) (q : Nat) (σ : dS), den mX7_reads 187 [l0, l1] [.int a0, .ref q, .int b0, .ref b1] σ = if disO σ q 6 = true then ((dcall mX7_byteAt [.ref q, .int a0] σ).bind fun r => den mX7_reads 190 [l0, l1] (r.1.toList ++ [.int b0, .ref b1]) r.2) else none) ∧
  (∀ (l0 l1 : Option Value) (x y : Int32) (st : List Value) (σ : dS), den mX7_reads 190 [l0, l1] (.int y :: .int x :: st) σ = den mX7_reads 191 [l0, l1] (.int (x + y) :: st) σ) ∧
  (∀ (l0 l1 : Option Value) (st : List Value) (σ : dS), den mX7_reads 191 [l0, l1] st σ = den mX7_reads 193 [l0, l1] (.int (nI 48) :: st) σ) ∧
  (∀ (l0 l1 : Option Value) (x y : Int32) (st : List Value) (σ : dS), den mX7_reads 193 [l0, l1] (.int y :: .int x :: st) σ = den mX7_reads 194 [l0, l1] (.int (x - y) :: st) σ) ∧
  (∀ (l0 l1 : Option Value) (st : List Value) (σ : dS), den mX7_reads 194 [l0, l1] st σ = den mX7_reads 201 [l0, l1] st σ) ∧
  (∀ (l1 : Option Value) (x : Nat) (st : List Value) (σ : dS), den mX7_reads 197 [some (.ref x), l1] st σ = den mX7_reads 198 [some (.ref x), l1] (.ref x :: st) σ) ∧
  (∀ (l0 l1 : Option Value) (q : Nat) (st : List Value) (σ : dS), den mX7_reads 198 [l0, l1] (.ref q :: st) σ = (dget σ q 6 9).bind fun v => den mX7_reads 201 [l0, l1] (v :: st) σ) ∧
  (∀ (l0 l1 : Option Value) (x : Int32) (q : Nat) (st : List Value) (σ : dS), den mX7_reads 201 [l0, l1] (.int x :: .ref q :: st) σ = (dput σ q 6 9 (.int x)).bind fun τ => den mX7_reads 204 [l0, l1] st τ) ∧
  (∀ (l1 : Option Value) (x : Nat) (st : List Value) (σ : dS), den mX7_reads 204 [some (.ref x), l1] st σ = den mX7_reads 205 [some (.ref x), l1] (.ref x :: st) σ) ∧
  (∀ (l0 l1 : Option Value) (x : Nat) (st : List Value) (σ : dS), den mX7_reads 205 [l0, l1] (.ref x :: st) σ = den mX7_reads 206 [l0, l1] (.ref x :: .ref x :: st) σ) ∧
  (∀ (l0 l1 : Option Value) (q : Nat) (st : List Value) (σ : dS), den mX7_reads 206 [l0, l1] (.ref q :: st) σ = (dget σ q 6 6).bind fun v => den mX7_reads 209 [l0, l1] (v :: st) σ) ∧
  (∀ (l0 l1 : Option Value) (st : List Value) (σ : dS), den mX7_reads 209 [l0, l1] st σ = den mX7_reads 210 [l0, l1] (.int (nI 1) :: st) σ) ∧
  (∀ (l0 l1 : Option Value) (x y : Int32) (st : List Value) (σ : dS), den mX7_reads 210 [l0, l1] (.int y :: .int x :: st) σ = den mX7_reads 211 [l0, l1] (.int (x + y) :: st) σ) ∧
  (∀ (l0 l1 : Option Value) (x : Int32) (q : Nat) (st : List Value) (σ : dS), den mX7_reads 211 [l0, l1] (.int x :: .ref q :: st) σ = (dput σ q 6 6 (.int x)).bind fun τ => den mX7_reads 214 [l0, l1] st τ) ∧
  (∀ (l0 l1 : Option Value) (st : List Value) (σ : dS), den mX7_reads 214 [l0, l1] st σ = den mX7_reads 140 [l0, l1] st σ) ∧
  (∀ (l1 : Option Value) (x : Nat) (st : List Value) (σ : dS), den mX7_reads 217 [some (.ref x), l1] st σ = den mX7_reads 218 [some (.ref x), l1] (.ref x :: st) σ) ∧
  (∀ (l1 : Option Value) (x : Nat) (st : List Value) (σ : dS), den mX7_reads 218 [some (.ref x), l1] st σ = den mX7_reads 219 [some (.ref x), l1] (.ref x :: st) σ) ∧
  (∀ (l0 l1 : Option Value) (q : Nat) (st : List Value) (σ : dS), den mX7_reads 219 [l0, l1] (.ref q :: st) σ = (dget σ q 6 6).bind fun v => den mX7_reads 222 [l0, l1] (v :: st) σ) ∧
  (∀ (l1 : Option Value) (x : Nat) (st : List Value) (σ : dS), den mX7_reads 222 [some (.ref x), l1] st σ = den mX7_reads 223 [some (.ref x), l1] (.ref x :: st) σ) ∧
  (∀ (l0 l1 : Option Value) (q : Nat) (st : List Value) (σ : dS), den mX7_reads 223 [l0, l1] (.ref q :: st) σ = (dget σ q 6 7).bind fun v => den mX7_reads 226 [l0, l1] (v :: st) σ) ∧
  (∀ (l0 l1 : Option Value) (x y : Int32) (st : List Value) (σ : dS), den mX7_reads 226 [l0, l1] (.int y :: .int x :: st) σ = den mX7_reads 227 [l0, l1] (.int (x - y) :: st) σ) ∧
  (∀ (l0 l1 : Option Value) (st : List Value) (σ : dS), den mX7_reads 227 [l0, l1] st σ = den mX7_reads 228 [l0, l1] (.int (nI 2) :: st) σ) ∧
  (∀ (l0 l1 : Option Value) (x y : Int32) (st : List Value) (σ : dS), den mX7_reads 228 [l0, l1] (.int y :: .int x :: st) σ = if y < x then den mX7_reads 235 [l0, l1] st σ else den mX7_reads 231 [l0, l1] st σ) ∧
  (∀ (l0 l1 : Option Value) (st : List Value) (σ : dS), den mX7_reads 231 [l0, l1] st σ = den mX7_reads 232 [l0, l1] (.int (nI 1) :: st) σ) ∧
  (∀ (l0 l1 : Option Value) (st : List Value) (σ : dS), den mX7_reads 232 [l0, l1] st σ = den mX7_reads 236 [l0, l1] st σ) ∧
  (∀ (l0 l1 : Option Value) (st : List Value) (σ : dS), den mX7_reads 235 [l0, l1] st σ = den mX7_reads 236 [l0, l1] (.int (nI 0) :: st) σ) ∧
  (∀ (l0 l1 : Option Value) (st : List Value) (σ : dS), den mX7_reads 236 [l0, l1] st σ = den mX7_reads 237 [l0, l1] (.int (nI 1) :: st) σ) ∧
  (∀ (l0 l1 : Option Value) (a0 : Int32) (a1 : Int32) (q : Nat) (σ : dS), den mX7_reads 237 [l0, l1] [.int a1, .int a0, .ref q] σ = if disO σ q 6 = true then ((dcall mX7_requires [.ref q, .int a0, .int a1] σ).bind fun r => den mX7_reads 240 [l0, l1] (r.1.toList ++ []) r.2) else none) ∧
  (∀ (l0 l1 : Option Value) (st : List Value) (σ : dS), den mX7_reads 240 [l0, l1] st σ = den mX7_reads 302 [l0, l1] st σ) ∧
  (∀ (l1 : Option Value) (x : Nat) (st : List Value) (σ : dS), den mX7_reads 243 [some (.ref x), l1] st σ = den mX7_reads 244 [some (.ref x), l1] (.ref x :: st) σ) :=
  ⟨fun l0 l1 x y st σ => dn_isub eX7_reads dX7_reads_170,
  fun l0 l1 st σ => dn_iconst eX7_reads dX7_reads_171 kc_iconst_2,
  fun l0 l1 x y st σ => dn_icmp_ge eX7_reads dX7_reads_172 (by decide),
  fun l0 l1 st σ => dn_bipush eX7_reads dX7_reads_175 kc_bipush_10,
  fun l1 x st σ => dn_aload_n eX7_reads dX7_reads_177 rfl,
  fun l0 l1 q st σ => dn_getfield (f := (6, 9, 780)) eX7_reads dX7_reads_178 (by decide +kernel),
  fun l0 l1 x y st σ => dn_imul eX7_reads dX7_reads_181,
  fun l1 x st σ => dn_aload_n eX7_reads dX7_reads_182 rfl,
  fun l1 x st σ => dn_aload_n eX7_reads dX7_reads_183 rfl,
  fun l0 l1 q st σ => dn_getfield (f := (6, 6, 777)) eX7_reads dX7_reads_184 (by decide +kernel),
  fun l0 l1 a0 b0 b1 q σ => rX7_reads_187 l0 l1 a0 b0 b1 q σ,
  fun l0 l1 x y st σ => dn_iadd eX7_reads dX7_reads_190,
  fun l0 l1 st σ => dn_bipush eX7_reads dX7_reads_191 kc_bipush_48,
  fun l0 l1 x y st σ => dn_isub eX7_reads dX7_reads_193,
  fun l0 l1 st σ => dn_goto eX7_reads dX7_reads_194 (by decide),
  fun l1 x st σ => dn_aload_n eX7_reads dX7_reads_197 rfl,
  fun l0 l1 q st σ => dn_getfield (f := (6, 9, 780)) eX7_reads dX7_reads_198 (by decide +kernel),
  fun l0 l1 x q st σ => dn_putfield (f := (6, 9, 780)) (ty := .int) eX7_reads dX7_reads_201 (by decide +kernel) (by decide +kernel) rfl,
  fun l1 x st σ => dn_aload_n eX7_reads dX7_reads_204 rfl,
  fun l0 l1 x st σ => dn_dup eX7_reads dX7_reads_205 rfl,
  fun l0 l1 q st σ => dn_getfield (f := (6, 6, 777)) eX7_reads dX7_reads_206 (by decide +kernel),
  fun l0 l1 st σ => dn_iconst eX7_reads dX7_reads_209 kc_iconst_1,
  fun l0 l1 x y st σ => dn_iadd eX7_reads dX7_reads_210,
  fun l0 l1 x q st σ => dn_putfield (f := (6, 6, 777)) (ty := .int) eX7_reads dX7_reads_211 (by decide +kernel) (by decide +kernel) rfl,
  fun l0 l1 st σ => dn_goto eX7_reads dX7_reads_214 (by decide),
  fun l1 x st σ => dn_aload_n eX7_reads dX7_reads_217 rfl,
  fun l1 x st σ => dn_aload_n eX7_reads dX7_reads_218 rfl,
  fun l0 l1 q st σ => dn_getfield (f := (6, 6, 777)) eX7_reads dX7_reads_219 (by decide +kernel),
  fun l1 x st σ => dn_aload_n eX7_reads dX7_reads_222 rfl,
  fun l0 l1 q st σ => dn_getfield (f := (6, 7, 778)) eX7_reads dX7_reads_223 (by decide +kernel),
  fun l0 l1 x y st σ => dn_isub eX7_reads dX7_reads_226,
  fun l0 l1 st σ => dn_iconst eX7_reads dX7_reads_227 kc_iconst_2,
  fun l0 l1 x y st σ => dn_icmp_gt eX7_reads dX7_reads_228 (by decide),
  fun l0 l1 st σ => dn_iconst eX7_reads dX7_reads_231 kc_iconst_1,
  fun l0 l1 st σ => dn_goto eX7_reads dX7_reads_232 (by decide),
  fun l0 l1 st σ => dn_iconst eX7_reads dX7_reads_235 kc_iconst_0,
  fun l0 l1 st σ => dn_iconst eX7_reads dX7_reads_236 kc_iconst_1,
  fun l0 l1 a0 a1 q σ => rX7_reads_237 l0 l1 a0 a1 q σ,
  fun l0 l1 st σ => dn_goto eX7_reads dX7_reads_240 (by decide),
  fun l1 x st σ => dn_aload_n eX7_reads dX7_reads_243 rfl⟩
set_option maxRecDepth 20000 in
theorem SX7_reads_3 : (∀ (l0 : Option Value) (x : Int32) (st : List Value) (σ : dS), den mX7_reads 244 [l0, some (.int x)] st σ = den mX7_reads 245 [l0, some (.int x)] (.int x :: st) σ) ∧
  (∀ (l0 l1 : Option Value) (st : List Value) (σ : dS), den mX7_reads 245 [l0, l1] st σ = den mX7_reads 247 [l0, l1] (.int (nI 123) :: st) σ) ∧
  (∀ (l0 l1 : Option Value) (x y : Int32) (st : List Value) (σ : dS), den mX7_reads 247 [l0, l1] (.int y :: .int x :: st) σ = if x = y then den mX7_reads 250 [l0, l1] st σ else den mX7_reads 254 [l0, l1] st σ) ∧
  (∀ (l0 l1 : Option Value) (st : List Value) (σ : dS), den mX7_reads 250 [l0, l1] st σ = den mX7_reads 251 [l0, l1] (.int (nI 4) :: st) σ) ∧
  (∀ (l0 l1 : Option Value) (st : List Value) (σ : dS), den mX7_reads 251 [l0, l1] st σ = den mX7_reads 265 [l0, l1] st σ) ∧
  (∀ (l0 : Option Value) (x : Int32) (st : List Value) (σ : dS), den mX7_reads 254 [l0, some (.int x)] st σ = den mX7_reads 255 [l0, some (.int x)] (.int x :: st) σ) ∧
  (∀ (l0 l1 : Option Value) (st : List Value) (σ : dS), den mX7_reads 255 [l0, l1] st σ = den mX7_reads 257 [l0, l1] (.int (nI 125) :: st) σ) ∧
  (∀ (l0 l1 : Option Value) (x y : Int32) (st : List Value) (σ : dS), den mX7_reads 257 [l0, l1] (.int y :: .int x :: st) σ = if x = y then den mX7_reads 260 [l0, l1] st σ else den mX7_reads 264 [l0, l1] st σ) ∧
  (∀ (l0 l1 : Option Value) (st : List Value) (σ : dS), den mX7_reads 260 [l0, l1] st σ = den mX7_reads 261 [l0, l1] (.int (nI 5) :: st) σ) ∧
  (∀ (l0 l1 : Option Value) (st : List Value) (σ : dS), den mX7_reads 261 [l0, l1] st σ = den mX7_reads 265 [l0, l1] st σ) ∧
  (∀ (l0 l1 : Option Value) (st : List Value) (σ : dS), den mX7_reads 264 [l0, l1] st σ = den mX7_reads 265 [l0, l1] (.int (nI 3) :: st) σ) ∧
  (∀ (l0 l1 : Option Value) (x : Int32) (q : Nat) (st : List Value) (σ : dS), den mX7_reads 265 [l0, l1] (.int x :: .ref q :: st) σ = (dput σ q 6 8 (.int x)).bind fun τ => den mX7_reads 268 [l0, l1] st τ) ∧
  (∀ (l1 : Option Value) (x : Nat) (st : List Value) (σ : dS), den mX7_reads 268 [some (.ref x), l1] st σ = den mX7_reads 269 [some (.ref x), l1] (.ref x :: st) σ) ∧
  (∀ (l1 : Option Value) (x : Nat) (st : List Value) (σ : dS), den mX7_reads 269 [some (.ref x), l1] st σ = den mX7_reads 270 [some (.ref x), l1] (.ref x :: st) σ) ∧
  (∀ (l0 l1 : Option Value) (q : Nat) (st : List Value) (σ : dS), den mX7_reads 270 [l0, l1] (.ref q :: st) σ = (dget σ q 6 8).bind fun v => den mX7_reads 273 [l0, l1] (v :: st) σ) ∧
  (∀ (l0 l1 : Option Value) (st : List Value) (σ : dS), den mX7_reads 273 [l0, l1] st σ = den mX7_reads 274 [l0, l1] (.int (nI 3) :: st) σ) ∧
  (∀ (l0 l1 : Option Value) (x y : Int32) (st : List Value) (σ : dS), den mX7_reads 274 [l0, l1] (.int y :: .int x :: st) σ = if x = y then den mX7_reads 277 [l0, l1] st σ else den mX7_reads 283 [l0, l1] st σ) ∧
  (∀ (l0 : Option Value) (x : Int32) (st : List Value) (σ : dS), den mX7_reads 277 [l0, some (.int x)] st σ = den mX7_reads 278 [l0, some (.int x)] (.int x :: st) σ) ∧
  (∀ (l0 l1 : Option Value) (st : List Value) (σ : dS), den mX7_reads 278 [l0, l1] st σ = den mX7_reads 280 [l0, l1] (.int (nI 59) :: st) σ) ∧
  (∀ (l0 l1 : Option Value) (x y : Int32) (st : List Value) (σ : dS), den mX7_reads 280 [l0, l1] (.int y :: .int x :: st) σ = if x = y then den mX7_reads 283 [l0, l1] st σ else den mX7_reads 287 [l0, l1] st σ) ∧
  (∀ (l0 l1 : Option Value) (st : List Value) (σ : dS), den mX7_reads 283 [l0, l1] st σ = den mX7_reads 284 [l0, l1] (.int (nI 1) :: st) σ) ∧
  (∀ (l0 l1 : Option Value) (st : List Value) (σ : dS), den mX7_reads 284 [l0, l1] st σ = den mX7_reads 288 [l0, l1] st σ) ∧
  (∀ (l0 l1 : Option Value) (st : List Value) (σ : dS), den mX7_reads 287 [l0, l1] st σ = den mX7_reads 288 [l0, l1] (.int (nI 0) :: st) σ) ∧
  (∀ (l0 l1 : Option Value) (st : List Value) (σ : dS), den mX7_reads 288 [l0, l1] st σ = den mX7_reads 289 [l0, l1] (.int (nI 1) :: st) σ) ∧
  (∀ (l0 l1 : Option Value) (a0 : Int32) (a1 : Int32) (q : Nat) (σ : dS), den mX7_reads 289 [l0, l1] [.int a1, .int a0, .ref q] σ = if disO σ q 6 = true then ((dcall mX7_requires [.ref q, .int a0, .int a1] σ).bind fun r => den mX7_reads 292 [l0, l1] (r.1.toList ++ []) r.2) else none) ∧
  (∀ (l1 : Option Value) (x : Nat) (st : List Value) (σ : dS), den mX7_reads 292 [some (.ref x), l1] st σ = den mX7_reads 293 [some (.ref x), l1] (.ref x :: st) σ) ∧
  (∀ (l0 l1 : Option Value) (x : Nat) (st : List Value) (σ : dS), den mX7_reads 293 [l0, l1] (.ref x :: st) σ = den mX7_reads 294 [l0, l1] (.ref x :: .ref x :: st) σ) ∧
  (∀ (l0 l1 : Option Value) (q : Nat) (st : List Value) (σ : dS), den mX7_reads 294 [l0, l1] (.ref q :: st) σ = (dget σ q 6 6).bind fun v => den mX7_reads 297 [l0, l1] (v :: st) σ) ∧
  (∀ (l0 l1 : Option Value) (st : List Value) (σ : dS), den mX7_reads 297 [l0, l1] st σ = den mX7_reads 298 [l0, l1] (.int (nI 1) :: st) σ) ∧
  (∀ (l0 l1 : Option Value) (x y : Int32) (st : List Value) (σ : dS), den mX7_reads 298 [l0, l1] (.int y :: .int x :: st) σ = den mX7_reads 299 [l0, l1] (.int (x + y) :: st) σ) ∧
  (∀ (l0 l1 : Option Value) (x : Int32) (q : Nat) (st : List Value) (σ : dS), den mX7_reads 299 [l0, l1] (.int x :: .ref q :: st) σ = (dput σ q 6 6 (.int x)).bind fun τ => den mX7_reads 302 [l0, l1] st τ) ∧
  (∀ (l0 l1 : Option Value) (σ : dS), den mX7_reads 302 [l0, l1] [] σ = some (none, σ)) :=
  ⟨fun l0 x st σ => dn_iload_n eX7_reads dX7_reads_244 rfl,
  fun l0 l1 st σ => dn_bipush eX7_reads dX7_reads_245 kc_bipush_123,
  fun l0 l1 x y st σ => dn_icmp_ne eX7_reads dX7_reads_247 (by decide),
  fun l0 l1 st σ => dn_iconst eX7_reads dX7_reads_250 kc_iconst_4,
  fun l0 l1 st σ => dn_goto eX7_reads dX7_reads_251 (by decide),
  fun l0 x st σ => dn_iload_n eX7_reads dX7_reads_254 rfl,
  fun l0 l1 st σ => dn_bipush eX7_reads dX7_reads_255 kc_bipush_125,
  fun l0 l1 x y st σ => dn_icmp_ne eX7_reads dX7_reads_257 (by decide),
  fun l0 l1 st σ => dn_iconst eX7_reads dX7_reads_260 kc_iconst_5,
  fun l0 l1 st σ => dn_goto eX7_reads dX7_reads_261 (by decide),
  fun l0 l1 st σ => dn_iconst eX7_reads dX7_reads_264 kc_iconst_3,
  fun l0 l1 x q st σ => dn_putfield (f := (6, 8, 779)) (ty := .int) eX7_reads dX7_reads_265 (by decide +kernel) (by decide +kernel) rfl,
  fun l1 x st σ => dn_aload_n eX7_reads dX7_reads_268 rfl,
  fun l1 x st σ => dn_aload_n eX7_reads dX7_reads_269 rfl,
  fun l0 l1 q st σ => dn_getfield (f := (6, 8, 779)) eX7_reads dX7_reads_270 (by decide +kernel),
  fun l0 l1 st σ => dn_iconst eX7_reads dX7_reads_273 kc_iconst_3,
  fun l0 l1 x y st σ => dn_icmp_ne eX7_reads dX7_reads_274 (by decide),
  fun l0 x st σ => dn_iload_n eX7_reads dX7_reads_277 rfl,
  fun l0 l1 st σ => dn_bipush eX7_reads dX7_reads_278 kc_bipush_59,
  fun l0 l1 x y st σ => dn_icmp_ne eX7_reads dX7_reads_280 (by decide),
  fun l0 l1 st σ => dn_iconst eX7_reads dX7_reads_283 kc_iconst_1,
  fun l0 l1 st σ => dn_goto eX7_reads dX7_reads_284 (by decide),
  fun l0 l1 st σ => dn_iconst eX7_reads dX7_reads_287 kc_iconst_0,
  fun l0 l1 st σ => dn_iconst eX7_reads dX7_reads_288 kc_iconst_1,
  fun l0 l1 a0 a1 q σ => rX7_reads_289 l0 l1 a0 a1 q σ,
  fun l1 x st σ => dn_aload_n eX7_reads dX7_reads_292 rfl,
  fun l0 l1 x st σ => dn_dup eX7_reads dX7_reads_293 rfl,
  fun l0 l1 q st σ => dn_getfield (f := (6, 6, 777)) eX7_reads dX7_reads_294 (by decide +kernel),
  fun l0 l1 st σ => dn_iconst eX7_reads dX7_reads_297 kc_iconst_1,
  fun l0 l1 x y st σ => dn_iadd eX7_reads dX7_reads_298,
  fun l0 l1 x q st σ => dn_putfield (f := (6, 6, 777)) (ty := .int) eX7_reads dX7_reads_299 (by decide +kernel) (by decide +kernel) rfl,
  fun l0 l1 σ => dn_return eX7_reads dX7_reads_302 rfl⟩
theorem CX7_readNumber (a0 : Nat) (a1 : Int32) (a2 : Int32) (σ : dS) : dcall mX7_readNumber [.ref a0, .int a1, .int a2] σ = den mX7_readNumber 0 [some (.ref a0), some (.int a1), some (.int a2), none] [] σ := dcall_den (by decide) rfl
theorem rX7_readNumber_22 (l0 l1 l2 l3 : Option Value) (a0 : Int32) (a1 : Int32) (q : Nat) (σ : dS) : den mX7_readNumber 22 [l0, l1, l2, l3] [.int a1, .int a0, .ref q] σ = if disO σ q 6 = true then ((dcall mX7_requires [.ref q, .int a0, .int a1] σ).bind fun r => den mX7_readNumber 25 [l0, l1, l2, l3] (r.1.toList ++ []) r.2) else none := by
  by_cases h : disO σ q 6 = true
  · rw [if_pos h]; exact dn_callV (e := (0, 108, 902)) (as := [.int a0, .int a1]) (rest := []) eX7_readNumber dX7_readNumber_22 (by decide +kernel) rfl (by decide +kernel) rfl (dcat_le rfl) (dlen_le rfl) rfl h
  · rw [if_neg h]; exact den_noV (e := (0, 108, 902)) (as := [.int a0, .int a1]) (rest := []) eX7_readNumber dX7_readNumber_22 (by decide +kernel) rfl rfl rfl h
theorem rX7_readNumber_46 (l0 l1 l2 l3 : Option Value) (a0 : Int32) (a1 : Int32) (q : Nat) (σ : dS) : den mX7_readNumber 46 [l0, l1, l2, l3] [.int a1, .int a0, .ref q] σ = if disO σ q 6 = true then ((dcall mX7_requires [.ref q, .int a0, .int a1] σ).bind fun r => den mX7_readNumber 49 [l0, l1, l2, l3] (r.1.toList ++ []) r.2) else none := by
  by_cases h : disO σ q 6 = true
  · rw [if_pos h]; exact dn_callV (e := (0, 108, 902)) (as := [.int a0, .int a1]) (rest := []) eX7_readNumber dX7_readNumber_46 (by decide +kernel) rfl (by decide +kernel) rfl (dcat_le rfl) (dlen_le rfl) rfl h
  · rw [if_neg h]; exact den_noV (e := (0, 108, 902)) (as := [.int a0, .int a1]) (rest := []) eX7_readNumber dX7_readNumber_46 (by decide +kernel) rfl rfl rfl h
theorem rX7_readNumber_66 (l0 l1 l2 l3 : Option Value) (q : Nat) (σ : dS) : den mX7_readNumber 66 [l0, l1, l2, l3] [.ref q] σ = if disO σ q 6 = true then ((dcall mX7_reads [.ref q] σ).bind fun r => den mX7_readNumber 69 [l0, l1, l2, l3] (r.1.toList ++ []) r.2) else none := by
  by_cases h : disO σ q 6 = true
  · rw [if_pos h]; exact dn_callV (e := (0, 112, 890)) (as := []) (rest := []) eX7_readNumber dX7_readNumber_66 (by decide +kernel) rfl (by decide +kernel) rfl (dcat_le rfl) (dlen_le rfl) rfl h
  · rw [if_neg h]; exact den_noV (e := (0, 112, 890)) (as := []) (rest := []) eX7_readNumber dX7_readNumber_66 (by decide +kernel) rfl rfl rfl h
set_option maxRecDepth 20000 in
theorem SX7_readNumber : (∀ (l1 l2 l3 : Option Value) (x : Nat) (st : List Value) (σ : dS), den mX7_readNumber 0 [some (.ref x), l1, l2, l3] st σ = den mX7_readNumber 1 [some (.ref x), l1, l2, l3] (.ref x :: st) σ) ∧
  (∀ (l0 l1 l2 l3 : Option Value) (q : Nat) (st : List Value) (σ : dS), den mX7_readNumber 1 [l0, l1, l2, l3] (.ref q :: st) σ = (dget σ q 6 10).bind fun v => den mX7_readNumber 4 [l0, l1, l2, l3] (v :: st) σ) ∧
  (∀ (l0 l1 l2 l3 : Option Value) (x : Int32) (st : List Value) (σ : dS), den mX7_readNumber 4 [l0, l1, l2, l3] (.int x :: st) σ = if x = 0 then den mX7_readNumber 7 [l0, l1, l2, l3] st σ else den mX7_readNumber 25 [l0, l1, l2, l3] st σ) ∧
  (∀ (l1 l2 l3 : Option Value) (x : Nat) (st : List Value) (σ : dS), den mX7_readNumber 7 [some (.ref x), l1, l2, l3] st σ = den mX7_readNumber 8 [some (.ref x), l1, l2, l3] (.ref x :: st) σ) ∧
  (∀ (l1 l2 l3 : Option Value) (x : Nat) (st : List Value) (σ : dS), den mX7_readNumber 8 [some (.ref x), l1, l2, l3] st σ = den mX7_readNumber 9 [some (.ref x), l1, l2, l3] (.ref x :: st) σ) ∧
  (∀ (l0 l1 l2 l3 : Option Value) (q : Nat) (st : List Value) (σ : dS), den mX7_readNumber 9 [l0, l1, l2, l3] (.ref q :: st) σ = (dget σ q 6 8).bind fun v => den mX7_readNumber 12 [l0, l1, l2, l3] (v :: st) σ) ∧
  (∀ (l0 l1 l2 l3 : Option Value) (st : List Value) (σ : dS), den mX7_readNumber 12 [l0, l1, l2, l3] st σ = den mX7_readNumber 13 [l0, l1, l2, l3] (.int (nI 2) :: st) σ) ∧
  (∀ (l0 l1 l2 l3 : Option Value) (x y : Int32) (st : List Value) (σ : dS), den mX7_readNumber 13 [l0, l1, l2, l3] (.int y :: .int x :: st) σ = if x = y then den mX7_readNumber 16 [l0, l1, l2, l3] st σ else den mX7_readNumber 20 [l0, l1, l2, l3] st σ) ∧
  (∀ (l0 l1 l2 l3 : Option Value) (st : List Value) (σ : dS), den mX7_readNumber 16 [l0, l1, l2, l3] st σ = den mX7_readNumber 17 [l0, l1, l2, l3] (.int (nI 1) :: st) σ) ∧
  (∀ (l0 l1 l2 l3 : Option Value) (st : List Value) (σ : dS), den mX7_readNumber 17 [l0, l1, l2, l3] st σ = den mX7_readNumber 21 [l0, l1, l2, l3] st σ) ∧
  (∀ (l0 l1 l2 l3 : Option Value) (st : List Value) (σ : dS), den mX7_readNumber 20 [l0, l1, l2, l3] st σ = den mX7_readNumber 21 [l0, l1, l2, l3] (.int (nI 0) :: st) σ) ∧
  (∀ (l0 l1 l2 l3 : Option Value) (st : List Value) (σ : dS), den mX7_readNumber 21 [l0, l1, l2, l3] st σ = den mX7_readNumber 22 [l0, l1, l2, l3] (.int (nI 2) :: st) σ) ∧
  (∀ (l0 l1 l2 l3 : Option Value) (a0 : Int32) (a1 : Int32) (q : Nat) (σ : dS), den mX7_readNumber 22 [l0, l1, l2, l3] [.int a1, .int a0, .ref q] σ = if disO σ q 6 = true then ((dcall mX7_requires [.ref q, .int a0, .int a1] σ).bind fun r => den mX7_readNumber 25 [l0, l1, l2, l3] (r.1.toList ++ []) r.2) else none) ∧
  (∀ (l1 l2 l3 : Option Value) (x : Nat) (st : List Value) (σ : dS), den mX7_readNumber 25 [some (.ref x), l1, l2, l3] st σ = den mX7_readNumber 26 [some (.ref x), l1, l2, l3] (.ref x :: st) σ) ∧
  (∀ (l0 l1 l2 l3 : Option Value) (q : Nat) (st : List Value) (σ : dS), den mX7_readNumber 26 [l0, l1, l2, l3] (.ref q :: st) σ = (dget σ q 6 10).bind fun v => den mX7_readNumber 29 [l0, l1, l2, l3] (v :: st) σ) ∧
  (∀ (l0 l1 l2 l3 : Option Value) (x : Int32) (st : List Value) (σ : dS), den mX7_readNumber 29 [l0, l1, l2, l3] (.int x :: st) σ = if x = 0 then den mX7_readNumber 32 [l0, l1, l2, l3] st σ else den mX7_readNumber 49 [l0, l1, l2, l3] st σ) ∧
  (∀ (l1 l2 l3 : Option Value) (x : Nat) (st : List Value) (σ : dS), den mX7_readNumber 32 [some (.ref x), l1, l2, l3] st σ = den mX7_readNumber 33 [some (.ref x), l1, l2, l3] (.ref x :: st) σ) ∧
  (∀ (l1 l2 l3 : Option Value) (x : Nat) (st : List Value) (σ : dS), den mX7_readNumber 33 [some (.ref x), l1, l2, l3] st σ = den mX7_readNumber 34 [some (.ref x), l1, l2, l3] (.ref x :: st) σ) ∧
  (∀ (l0 l1 l2 l3 : Option Value) (q : Nat) (st : List Value) (σ : dS), den mX7_readNumber 34 [l0, l1, l2, l3] (.ref q :: st) σ = (dget σ q 6 9).bind fun v => den mX7_readNumber 37 [l0, l1, l2, l3] (v :: st) σ) ∧
  (∀ (l0 l1 l2 l3 : Option Value) (x : Int32) (st : List Value) (σ : dS), den mX7_readNumber 37 [l0, l1, l2, l3] (.int x :: st) σ = den mX7_readNumber 38 [l0, l1, l2, l3] (.long x.toInt64 :: st) σ) ∧
  (∀ (l0 l2 l3 : Option Value) (x : Int32) (st : List Value) (σ : dS), den mX7_readNumber 38 [l0, some (.int x), l2, l3] st σ = den mX7_readNumber 39 [l0, some (.int x), l2, l3] (.int x :: st) σ) ∧
  (∀ (l0 l1 l2 l3 : Option Value) (x : Int32) (st : List Value) (σ : dS), den mX7_readNumber 39 [l0, l1, l2, l3] (.int x :: st) σ = den mX7_readNumber 40 [l0, l1, l2, l3] (.long x.toInt64 :: st) σ) ∧
  (∀ (l0 l1 l3 : Option Value) (x : Int32) (st : List Value) (σ : dS), den mX7_readNumber 40 [l0, l1, some (.int x), l3] st σ = den mX7_readNumber 41 [l0, l1, some (.int x), l3] (.int x :: st) σ) ∧
  (∀ (l0 l1 l2 l3 : Option Value) (x : Int32) (st : List Value) (σ : dS), den mX7_readNumber 41 [l0, l1, l2, l3] (.int x :: st) σ = den mX7_readNumber 42 [l0, l1, l2, l3] (.long x.toInt64 :: st) σ) ∧
  (∀ (l0 l1 l2 l3 : Option Value) (a0 : Int64) (a1 : Int64) (a2 : Int64) (b0 : Nat) (σ : dS), den mX7_readNumber 42 [l0, l1, l2, l3] [.long a2, .long a1, .long a0, .ref b0] σ = (dcall mX7_in [.long a0, .long a1, .long a2] σ).bind fun r => den mX7_readNumber 45 [l0, l1, l2, l3] (r.1.toList ++ [.ref b0]) r.2) ∧
  (∀ (l0 l1 l2 l3 : Option Value) (st : List Value) (σ : dS), den mX7_readNumber 45 [l0, l1, l2, l3] st σ = den mX7_readNumber 46 [l0, l1, l2, l3] (.int (nI 3) :: st) σ) ∧
  (∀ (l0 l1 l2 l3 : Option Value) (a0 : Int32) (a1 : Int32) (q : Nat) (σ : dS), den mX7_readNumber 46 [l0, l1, l2, l3] [.int a1, .int a0, .ref q] σ = if disO σ q 6 = true then ((dcall mX7_requires [.ref q, .int a0, .int a1] σ).bind fun r => den mX7_readNumber 49 [l0, l1, l2, l3] (r.1.toList ++ []) r.2) else none) ∧
  (∀ (l1 l2 l3 : Option Value) (x : Nat) (st : List Value) (σ : dS), den mX7_readNumber 49 [some (.ref x), l1, l2, l3] st σ = den mX7_readNumber 50 [some (.ref x), l1, l2, l3] (.ref x :: st) σ) ∧
  (∀ (l0 l1 l2 l3 : Option Value) (q : Nat) (st : List Value) (σ : dS), den mX7_readNumber 50 [l0, l1, l2, l3] (.ref q :: st) σ = (dget σ q 6 10).bind fun v => den mX7_readNumber 53 [l0, l1, l2, l3] (v :: st) σ) ∧
  (∀ (l0 l1 l2 l3 : Option Value) (x : Int32) (st : List Value) (σ : dS), den mX7_readNumber 53 [l0, l1, l2, l3] (.int x :: st) σ = if x = 0 then den mX7_readNumber 56 [l0, l1, l2, l3] st σ else den mX7_readNumber 63 [l0, l1, l2, l3] st σ) ∧
  (∀ (l1 l2 l3 : Option Value) (x : Nat) (st : List Value) (σ : dS), den mX7_readNumber 56 [some (.ref x), l1, l2, l3] st σ = den mX7_readNumber 57 [some (.ref x), l1, l2, l3] (.ref x :: st) σ) ∧
  (∀ (l0 l1 l2 l3 : Option Value) (q : Nat) (st : List Value) (σ : dS), den mX7_readNumber 57 [l0, l1, l2, l3] (.ref q :: st) σ = (dget σ q 6 9).bind fun v => den mX7_readNumber 60 [l0, l1, l2, l3] (v :: st) σ) ∧
  (∀ (l0 l1 l2 l3 : Option Value) (st : List Value) (σ : dS), den mX7_readNumber 60 [l0, l1, l2, l3] st σ = den mX7_readNumber 64 [l0, l1, l2, l3] st σ) ∧
  (∀ (l0 l1 l2 l3 : Option Value) (st : List Value) (σ : dS), den mX7_readNumber 63 [l0, l1, l2, l3] st σ = den mX7_readNumber 64 [l0, l1, l2, l3] (.int (nI 0) :: st) σ) ∧
  (∀ (l0 l1 l3 : Option Value) (x : Int32) (y : Int32) (st : List Value) (σ : dS), den mX7_readNumber 64 [l0, l1, some (.int y), l3] (.int x :: st) σ = den mX7_readNumber 65 [l0, l1, some (.int y), some (.int x)] st σ) ∧
  (∀ (l1 l2 l3 : Option Value) (x : Nat) (st : List Value) (σ : dS), den mX7_readNumber 65 [some (.ref x), l1, l2, l3] st σ = den mX7_readNumber 66 [some (.ref x), l1, l2, l3] (.ref x :: st) σ) ∧
  (∀ (l0 l1 l2 l3 : Option Value) (q : Nat) (σ : dS), den mX7_readNumber 66 [l0, l1, l2, l3] [.ref q] σ = if disO σ q 6 = true then ((dcall mX7_reads [.ref q] σ).bind fun r => den mX7_readNumber 69 [l0, l1, l2, l3] (r.1.toList ++ []) r.2) else none) ∧
  (∀ (l0 l1 l2 : Option Value) (x : Int32) (st : List Value) (σ : dS), den mX7_readNumber 69 [l0, l1, l2, some (.int x)] st σ = den mX7_readNumber 70 [l0, l1, l2, some (.int x)] (.int x :: st) σ) ∧
  (∀ (l0 l1 l2 l3 : Option Value) (v : Int32) (σ : dS), den mX7_readNumber 70 [l0, l1, l2, l3] [.int v] σ = some (some (.int v), σ)) :=
  ⟨fun l1 l2 l3 x st σ => dn_aload_n eX7_readNumber dX7_readNumber_0 rfl,
  fun l0 l1 l2 l3 q st σ => dn_getfield (f := (6, 10, 781)) eX7_readNumber dX7_readNumber_1 (by decide +kernel),
  fun l0 l1 l2 l3 x st σ => dn_if_ne eX7_readNumber dX7_readNumber_4 (by decide),
  fun l1 l2 l3 x st σ => dn_aload_n eX7_readNumber dX7_readNumber_7 rfl,
  fun l1 l2 l3 x st σ => dn_aload_n eX7_readNumber dX7_readNumber_8 rfl,
  fun l0 l1 l2 l3 q st σ => dn_getfield (f := (6, 8, 779)) eX7_readNumber dX7_readNumber_9 (by decide +kernel),
  fun l0 l1 l2 l3 st σ => dn_iconst eX7_readNumber dX7_readNumber_12 kc_iconst_2,
  fun l0 l1 l2 l3 x y st σ => dn_icmp_ne eX7_readNumber dX7_readNumber_13 (by decide),
  fun l0 l1 l2 l3 st σ => dn_iconst eX7_readNumber dX7_readNumber_16 kc_iconst_1,
  fun l0 l1 l2 l3 st σ => dn_goto eX7_readNumber dX7_readNumber_17 (by decide),
  fun l0 l1 l2 l3 st σ => dn_iconst eX7_readNumber dX7_readNumber_20 kc_iconst_0,
  fun l0 l1 l2 l3 st σ => dn_iconst eX7_readNumber dX7_readNumber_21 kc_iconst_2,
  fun l0 l1 l2 l3 a0 a1 q σ => rX7_readNumber_22 l0 l1 l2 l3 a0 a1 q σ,
  fun l1 l2 l3 x st σ => dn_aload_n eX7_readNumber dX7_readNumber_25 rfl,
  fun l0 l1 l2 l3 q st σ => dn_getfield (f := (6, 10, 781)) eX7_readNumber dX7_readNumber_26 (by decide +kernel),
  fun l0 l1 l2 l3 x st σ => dn_if_ne eX7_readNumber dX7_readNumber_29 (by decide),
  fun l1 l2 l3 x st σ => dn_aload_n eX7_readNumber dX7_readNumber_32 rfl,
  fun l1 l2 l3 x st σ => dn_aload_n eX7_readNumber dX7_readNumber_33 rfl,
  fun l0 l1 l2 l3 q st σ => dn_getfield (f := (6, 9, 780)) eX7_readNumber dX7_readNumber_34 (by decide +kernel),
  fun l0 l1 l2 l3 x st σ => dn_i2l eX7_readNumber dX7_readNumber_37,
  fun l0 l2 l3 x st σ => dn_iload_n eX7_readNumber dX7_readNumber_38 rfl,
  fun l0 l1 l2 l3 x st σ => dn_i2l eX7_readNumber dX7_readNumber_39,
  fun l0 l1 l3 x st σ => dn_iload_n eX7_readNumber dX7_readNumber_40 rfl,
  fun l0 l1 l2 l3 x st σ => dn_i2l eX7_readNumber dX7_readNumber_41,
  fun l0 l1 l2 l3 a0 a1 a2 b0 σ => dn_callS (e := (1, 102, 879)) (as := [.long a0, .long a1, .long a2]) (rest := [.ref b0]) eX7_readNumber dX7_readNumber_42 (by decide +kernel) (Or.inl rfl) (by decide +kernel) rfl (dcat_le rfl) (dlen_le rfl) rfl,
  fun l0 l1 l2 l3 st σ => dn_iconst eX7_readNumber dX7_readNumber_45 kc_iconst_3,
  fun l0 l1 l2 l3 a0 a1 q σ => rX7_readNumber_46 l0 l1 l2 l3 a0 a1 q σ,
  fun l1 l2 l3 x st σ => dn_aload_n eX7_readNumber dX7_readNumber_49 rfl,
  fun l0 l1 l2 l3 q st σ => dn_getfield (f := (6, 10, 781)) eX7_readNumber dX7_readNumber_50 (by decide +kernel),
  fun l0 l1 l2 l3 x st σ => dn_if_ne eX7_readNumber dX7_readNumber_53 (by decide),
  fun l1 l2 l3 x st σ => dn_aload_n eX7_readNumber dX7_readNumber_56 rfl,
  fun l0 l1 l2 l3 q st σ => dn_getfield (f := (6, 9, 780)) eX7_readNumber dX7_readNumber_57 (by decide +kernel),
  fun l0 l1 l2 l3 st σ => dn_goto eX7_readNumber dX7_readNumber_60 (by decide),
  fun l0 l1 l2 l3 st σ => dn_iconst eX7_readNumber dX7_readNumber_63 kc_iconst_0,
  fun l0 l1 l3 x y st σ => dn_istore_n eX7_readNumber dX7_readNumber_64 rfl,
  fun l1 l2 l3 x st σ => dn_aload_n eX7_readNumber dX7_readNumber_65 rfl,
  fun l0 l1 l2 l3 q σ => rX7_readNumber_66 l0 l1 l2 l3 q σ,
  fun l0 l1 l2 x st σ => dn_iload_n eX7_readNumber dX7_readNumber_69 rfl,
  fun l0 l1 l2 l3 v σ => dn_ireturn eX7_readNumber dX7_readNumber_70 rfl⟩
theorem CX7_readVariable (a0 : Nat) (σ : dS) : dcall mX7_readVariable [.ref a0] σ = den mX7_readVariable 0 [some (.ref a0), none] [] σ := dcall_den (by decide) rfl
theorem rX7_readVariable_5 (l0 l1 : Option Value) (a0 : Int32) (q : Nat) (σ : dS) : den mX7_readVariable 5 [l0, l1] [.int a0, .ref q] σ = if disO σ q 6 = true then ((dcall mX7_byteAt [.ref q, .int a0] σ).bind fun r => den mX7_readVariable 8 [l0, l1] (r.1.toList ++ []) r.2) else none := by
  by_cases h : disO σ q 6 = true
  · rw [if_pos h]; exact dn_callV (e := (0, 109, 894)) (as := [.int a0]) (rest := []) eX7_readVariable dX7_readVariable_5 (by decide +kernel) rfl (by decide +kernel) rfl (dcat_le rfl) (dlen_le rfl) rfl h
  · rw [if_neg h]; exact den_noV (e := (0, 109, 894)) (as := [.int a0]) (rest := []) eX7_readVariable dX7_readVariable_5 (by decide +kernel) rfl rfl rfl h
theorem rX7_readVariable_58 (l0 l1 : Option Value) (a0 : Int32) (a1 : Int32) (q : Nat) (σ : dS) : den mX7_readVariable 58 [l0, l1] [.int a1, .int a0, .ref q] σ = if disO σ q 6 = true then ((dcall mX7_requires [.ref q, .int a0, .int a1] σ).bind fun r => den mX7_readVariable 61 [l0, l1] (r.1.toList ++ []) r.2) else none := by
  by_cases h : disO σ q 6 = true
  · rw [if_pos h]; exact dn_callV (e := (0, 108, 902)) (as := [.int a0, .int a1]) (rest := []) eX7_readVariable dX7_readVariable_58 (by decide +kernel) rfl (by decide +kernel) rfl (dcat_le rfl) (dlen_le rfl) rfl h
  · rw [if_neg h]; exact den_noV (e := (0, 108, 902)) (as := [.int a0, .int a1]) (rest := []) eX7_readVariable dX7_readVariable_58 (by decide +kernel) rfl rfl rfl h
theorem rX7_readVariable_62 (l0 l1 : Option Value) (q : Nat) (σ : dS) : den mX7_readVariable 62 [l0, l1] [.ref q] σ = if disO σ q 6 = true then ((dcall mX7_reads [.ref q] σ).bind fun r => den mX7_readVariable 65 [l0, l1] (r.1.toList ++ []) r.2) else none := by
  by_cases h : disO σ q 6 = true
  · rw [if_pos h]; exact dn_callV (e := (0, 112, 890)) (as := []) (rest := []) eX7_readVariable dX7_readVariable_62 (by decide +kernel) rfl (by decide +kernel) rfl (dcat_le rfl) (dlen_le rfl) rfl h
  · rw [if_neg h]; exact den_noV (e := (0, 112, 890)) (as := []) (rest := []) eX7_readVariable dX7_readVariable_62 (by decide +kernel) rfl rfl rfl h
set_option maxRecDepth 20000 in
theorem SX7_readVariable_0 : (∀ (l1 : Option Value) (x : Nat) (st : List Value) (σ : dS), den mX7_readVariable 0 [some (.ref x), l1] st σ = den mX7_readVariable 1 [some (.ref x), l1] (.ref x :: st) σ) ∧
  (∀ (l1 : Option Value) (x : Nat) (st : List Value) (σ : dS), den mX7_readVariable 1 [some (.ref x), l1] st σ = den mX7_readVariable 2 [some (.ref x), l1] (.ref x :: st) σ) ∧
  (∀ (l0 l1 : Option Value) (q : Nat) (st : List Value) (σ : dS), den mX7_readVariable 2 [l0, l1] (.ref q :: st) σ = (dget σ q 6 7).bind fun v => den mX7_readVariable 5 [l0, l1] (v :: st) σ) ∧
  (∀ (l0 l1 : Option Value) (a0 : Int32) (q : Nat) (σ : dS), den mX7_readVariable 5 [l0, l1] [.int a0, .ref q] σ = if disO σ q 6 = true then ((dcall mX7_byteAt [.ref q, .int a0] σ).bind fun r => den mX7_readVariable 8 [l0, l1] (r.1.toList ++ []) r.2) else none) ∧
  (∀ (l1 : Option Value) (x : Int32) (y : Nat) (st : List Value) (σ : dS), den mX7_readVariable 8 [some (.ref y), l1] (.int x :: st) σ = den mX7_readVariable 9 [some (.ref y), some (.int x)] st σ) ∧
  (∀ (l1 : Option Value) (x : Nat) (st : List Value) (σ : dS), den mX7_readVariable 9 [some (.ref x), l1] st σ = den mX7_readVariable 10 [some (.ref x), l1] (.ref x :: st) σ) ∧
  (∀ (l0 l1 : Option Value) (q : Nat) (st : List Value) (σ : dS), den mX7_readVariable 10 [l0, l1] (.ref q :: st) σ = (dget σ q 6 10).bind fun v => den mX7_readVariable 13 [l0, l1] (v :: st) σ) ∧
  (∀ (l0 l1 : Option Value) (x : Int32) (st : List Value) (σ : dS), den mX7_readVariable 13 [l0, l1] (.int x :: st) σ = if x = 0 then den mX7_readVariable 16 [l0, l1] st σ else den mX7_readVariable 61 [l0, l1] st σ) ∧
  (∀ (l1 : Option Value) (x : Nat) (st : List Value) (σ : dS), den mX7_readVariable 16 [some (.ref x), l1] st σ = den mX7_readVariable 17 [some (.ref x), l1] (.ref x :: st) σ) ∧
  (∀ (l1 : Option Value) (x : Nat) (st : List Value) (σ : dS), den mX7_readVariable 17 [some (.ref x), l1] st σ = den mX7_readVariable 18 [some (.ref x), l1] (.ref x :: st) σ) ∧
  (∀ (l0 l1 : Option Value) (q : Nat) (st : List Value) (σ : dS), den mX7_readVariable 18 [l0, l1] (.ref q :: st) σ = (dget σ q 6 8).bind fun v => den mX7_readVariable 21 [l0, l1] (v :: st) σ) ∧
  (∀ (l0 l1 : Option Value) (st : List Value) (σ : dS), den mX7_readVariable 21 [l0, l1] st σ = den mX7_readVariable 22 [l0, l1] (.int (nI 1) :: st) σ) ∧
  (∀ (l0 l1 : Option Value) (x y : Int32) (st : List Value) (σ : dS), den mX7_readVariable 22 [l0, l1] (.int y :: .int x :: st) σ = if x = y then den mX7_readVariable 25 [l0, l1] st σ else den mX7_readVariable 56 [l0, l1] st σ) ∧
  (∀ (l1 : Option Value) (x : Nat) (st : List Value) (σ : dS), den mX7_readVariable 25 [some (.ref x), l1] st σ = den mX7_readVariable 26 [some (.ref x), l1] (.ref x :: st) σ) ∧
  (∀ (l0 l1 : Option Value) (q : Nat) (st : List Value) (σ : dS), den mX7_readVariable 26 [l0, l1] (.ref q :: st) σ = (dget σ q 6 6).bind fun v => den mX7_readVariable 29 [l0, l1] (v :: st) σ) ∧
  (∀ (l1 : Option Value) (x : Nat) (st : List Value) (σ : dS), den mX7_readVariable 29 [some (.ref x), l1] st σ = den mX7_readVariable 30 [some (.ref x), l1] (.ref x :: st) σ) ∧
  (∀ (l0 l1 : Option Value) (q : Nat) (st : List Value) (σ : dS), den mX7_readVariable 30 [l0, l1] (.ref q :: st) σ = (dget σ q 6 7).bind fun v => den mX7_readVariable 33 [l0, l1] (v :: st) σ) ∧
  (∀ (l0 l1 : Option Value) (x y : Int32) (st : List Value) (σ : dS), den mX7_readVariable 33 [l0, l1] (.int y :: .int x :: st) σ = den mX7_readVariable 34 [l0, l1] (.int (x - y) :: st) σ) ∧
  (∀ (l0 l1 : Option Value) (st : List Value) (σ : dS), den mX7_readVariable 34 [l0, l1] st σ = den mX7_readVariable 35 [l0, l1] (.int (nI 1) :: st) σ) ∧
  (∀ (l0 l1 : Option Value) (x y : Int32) (st : List Value) (σ : dS), den mX7_readVariable 35 [l0, l1] (.int y :: .int x :: st) σ = if x = y then den mX7_readVariable 38 [l0, l1] st σ else den mX7_readVariable 56 [l0, l1] st σ) ∧
  (∀ (l0 : Option Value) (x : Int32) (st : List Value) (σ : dS), den mX7_readVariable 38 [l0, some (.int x)] st σ = den mX7_readVariable 39 [l0, some (.int x)] (.int x :: st) σ) ∧
  (∀ (l0 l1 : Option Value) (x : Int32) (st : List Value) (σ : dS), den mX7_readVariable 39 [l0, l1] (.int x :: st) σ = den mX7_readVariable 40 [l0, l1] (.long x.toInt64 :: st) σ) ∧
  (∀ (l0 l1 : Option Value) (st : List Value) (σ : dS), den mX7_readVariable 40 [l0, l1] st σ = den mX7_readVariable 43 [l0, l1] (.long (lN 97) :: st) σ) ∧
  (∀ (l0 l1 : Option Value) (st : List Value) (σ : dS), den mX7_readVariable 43 [l0, l1] st σ = den mX7_readVariable 46 [l0, l1] (.long (lN 104) :: st) σ) ∧
  (∀ (l0 l1 : Option Value) (a0 : Int64) (a1 : Int64) (a2 : Int64) (b0 : Nat) (σ : dS), den mX7_readVariable 46 [l0, l1] [.long a2, .long a1, .long a0, .ref b0] σ = (dcall mX7_in [.long a0, .long a1, .long a2] σ).bind fun r => den mX7_readVariable 49 [l0, l1] (r.1.toList ++ [.ref b0]) r.2) ∧
  (∀ (l0 l1 : Option Value) (x : Int32) (st : List Value) (σ : dS), den mX7_readVariable 49 [l0, l1] (.int x :: st) σ = if x = 0 then den mX7_readVariable 56 [l0, l1] st σ else den mX7_readVariable 52 [l0, l1] st σ) ∧
  (∀ (l0 l1 : Option Value) (st : List Value) (σ : dS), den mX7_readVariable 52 [l0, l1] st σ = den mX7_readVariable 53 [l0, l1] (.int (nI 1) :: st) σ) ∧
  (∀ (l0 l1 : Option Value) (st : List Value) (σ : dS), den mX7_readVariable 53 [l0, l1] st σ = den mX7_readVariable 57 [l0, l1] st σ) ∧
  (∀ (l0 l1 : Option Value) (st : List Value) (σ : dS), den mX7_readVariable 56 [l0, l1] st σ = den mX7_readVariable 57 [l0, l1] (.int (nI 0) :: st) σ) ∧
  (∀ (l0 l1 : Option Value) (st : List Value) (σ : dS), den mX7_readVariable 57 [l0, l1] st σ = den mX7_readVariable 58 [l0, l1] (.int (nI 2) :: st) σ) ∧
  (∀ (l0 l1 : Option Value) (a0 : Int32) (a1 : Int32) (q : Nat) (σ : dS), den mX7_readVariable 58 [l0, l1] [.int a1, .int a0, .ref q] σ = if disO σ q 6 = true then ((dcall mX7_requires [.ref q, .int a0, .int a1] σ).bind fun r => den mX7_readVariable 61 [l0, l1] (r.1.toList ++ []) r.2) else none) ∧
  (∀ (l1 : Option Value) (x : Nat) (st : List Value) (σ : dS), den mX7_readVariable 61 [some (.ref x), l1] st σ = den mX7_readVariable 62 [some (.ref x), l1] (.ref x :: st) σ) ∧
  (∀ (l0 l1 : Option Value) (q : Nat) (σ : dS), den mX7_readVariable 62 [l0, l1] [.ref q] σ = if disO σ q 6 = true then ((dcall mX7_reads [.ref q] σ).bind fun r => den mX7_readVariable 65 [l0, l1] (r.1.toList ++ []) r.2) else none) ∧
  (∀ (l1 : Option Value) (x : Nat) (st : List Value) (σ : dS), den mX7_readVariable 65 [some (.ref x), l1] st σ = den mX7_readVariable 66 [some (.ref x), l1] (.ref x :: st) σ) ∧
  (∀ (l0 l1 : Option Value) (q : Nat) (st : List Value) (σ : dS), den mX7_readVariable 66 [l0, l1] (.ref q :: st) σ = (dget σ q 6 10).bind fun v => den mX7_readVariable 69 [l0, l1] (v :: st) σ) ∧
  (∀ (l0 l1 : Option Value) (x : Int32) (st : List Value) (σ : dS), den mX7_readVariable 69 [l0, l1] (.int x :: st) σ = if x = 0 then den mX7_readVariable 78 [l0, l1] st σ else den mX7_readVariable 72 [l0, l1] st σ) ∧
  (∀ (l0 : Option Value) (x : Int32) (st : List Value) (σ : dS), den mX7_readVariable 72 [l0, some (.int x)] st σ = den mX7_readVariable 73 [l0, some (.int x)] (.int x :: st) σ) ∧
  (∀ (l0 l1 : Option Value) (st : List Value) (σ : dS), den mX7_readVariable 73 [l0, l1] st σ = den mX7_readVariable 75 [l0, l1] (.int (nI 97) :: st) σ) ∧
  (∀ (l0 l1 : Option Value) (x y : Int32) (st : List Value) (σ : dS), den mX7_readVariable 75 [l0, l1] (.int y :: .int x :: st) σ = if x < y then den mX7_readVariable 85 [l0, l1] st σ else den mX7_readVariable 78 [l0, l1] st σ) ∧
  (∀ (l0 : Option Value) (x : Int32) (st : List Value) (σ : dS), den mX7_readVariable 78 [l0, some (.int x)] st σ = den mX7_readVariable 79 [l0, some (.int x)] (.int x :: st) σ) :=
  ⟨fun l1 x st σ => dn_aload_n eX7_readVariable dX7_readVariable_0 rfl,
  fun l1 x st σ => dn_aload_n eX7_readVariable dX7_readVariable_1 rfl,
  fun l0 l1 q st σ => dn_getfield (f := (6, 7, 778)) eX7_readVariable dX7_readVariable_2 (by decide +kernel),
  fun l0 l1 a0 q σ => rX7_readVariable_5 l0 l1 a0 q σ,
  fun l1 x y st σ => dn_istore_n eX7_readVariable dX7_readVariable_8 rfl,
  fun l1 x st σ => dn_aload_n eX7_readVariable dX7_readVariable_9 rfl,
  fun l0 l1 q st σ => dn_getfield (f := (6, 10, 781)) eX7_readVariable dX7_readVariable_10 (by decide +kernel),
  fun l0 l1 x st σ => dn_if_ne eX7_readVariable dX7_readVariable_13 (by decide),
  fun l1 x st σ => dn_aload_n eX7_readVariable dX7_readVariable_16 rfl,
  fun l1 x st σ => dn_aload_n eX7_readVariable dX7_readVariable_17 rfl,
  fun l0 l1 q st σ => dn_getfield (f := (6, 8, 779)) eX7_readVariable dX7_readVariable_18 (by decide +kernel),
  fun l0 l1 st σ => dn_iconst eX7_readVariable dX7_readVariable_21 kc_iconst_1,
  fun l0 l1 x y st σ => dn_icmp_ne eX7_readVariable dX7_readVariable_22 (by decide),
  fun l1 x st σ => dn_aload_n eX7_readVariable dX7_readVariable_25 rfl,
  fun l0 l1 q st σ => dn_getfield (f := (6, 6, 777)) eX7_readVariable dX7_readVariable_26 (by decide +kernel),
  fun l1 x st σ => dn_aload_n eX7_readVariable dX7_readVariable_29 rfl,
  fun l0 l1 q st σ => dn_getfield (f := (6, 7, 778)) eX7_readVariable dX7_readVariable_30 (by decide +kernel),
  fun l0 l1 x y st σ => dn_isub eX7_readVariable dX7_readVariable_33,
  fun l0 l1 st σ => dn_iconst eX7_readVariable dX7_readVariable_34 kc_iconst_1,
  fun l0 l1 x y st σ => dn_icmp_ne eX7_readVariable dX7_readVariable_35 (by decide),
  fun l0 x st σ => dn_iload_n eX7_readVariable dX7_readVariable_38 rfl,
  fun l0 l1 x st σ => dn_i2l eX7_readVariable dX7_readVariable_39,
  fun l0 l1 st σ => dn_ldc2_w (w := 97) (p := 898) eX7_readVariable dX7_readVariable_40 (by decide +kernel) (by decide +kernel),
  fun l0 l1 st σ => dn_ldc2_w (w := 104) (p := 930) eX7_readVariable dX7_readVariable_43 (by decide +kernel) (by decide +kernel),
  fun l0 l1 a0 a1 a2 b0 σ => dn_callS (e := (1, 102, 879)) (as := [.long a0, .long a1, .long a2]) (rest := [.ref b0]) eX7_readVariable dX7_readVariable_46 (by decide +kernel) (Or.inl rfl) (by decide +kernel) rfl (dcat_le rfl) (dlen_le rfl) rfl,
  fun l0 l1 x st σ => dn_if_eq eX7_readVariable dX7_readVariable_49 (by decide),
  fun l0 l1 st σ => dn_iconst eX7_readVariable dX7_readVariable_52 kc_iconst_1,
  fun l0 l1 st σ => dn_goto eX7_readVariable dX7_readVariable_53 (by decide),
  fun l0 l1 st σ => dn_iconst eX7_readVariable dX7_readVariable_56 kc_iconst_0,
  fun l0 l1 st σ => dn_iconst eX7_readVariable dX7_readVariable_57 kc_iconst_2,
  fun l0 l1 a0 a1 q σ => rX7_readVariable_58 l0 l1 a0 a1 q σ,
  fun l1 x st σ => dn_aload_n eX7_readVariable dX7_readVariable_61 rfl,
  fun l0 l1 q σ => rX7_readVariable_62 l0 l1 q σ,
  fun l1 x st σ => dn_aload_n eX7_readVariable dX7_readVariable_65 rfl,
  fun l0 l1 q st σ => dn_getfield (f := (6, 10, 781)) eX7_readVariable dX7_readVariable_66 (by decide +kernel),
  fun l0 l1 x st σ => dn_if_eq eX7_readVariable dX7_readVariable_69 (by decide),
  fun l0 x st σ => dn_iload_n eX7_readVariable dX7_readVariable_72 rfl,
  fun l0 l1 st σ => dn_bipush eX7_readVariable dX7_readVariable_73 kc_bipush_97,
  fun l0 l1 x y st σ => dn_icmp_lt eX7_readVariable dX7_readVariable_75 (by decide),
  fun l0 x st σ => dn_iload_n eX7_readVariable dX7_readVariable_78 rfl⟩
set_option maxRecDepth 20000 in
theorem SX7_readVariable_1 : (∀ (l0 l1 : Option Value) (st : List Value) (σ : dS), den mX7_readVariable 79 [l0, l1] st σ = den mX7_readVariable 81 [l0, l1] (.int (nI 97) :: st) σ) ∧
  (∀ (l0 l1 : Option Value) (x y : Int32) (st : List Value) (σ : dS), den mX7_readVariable 81 [l0, l1] (.int y :: .int x :: st) σ = den mX7_readVariable 82 [l0, l1] (.int (x - y) :: st) σ) ∧
  (∀ (l0 l1 : Option Value) (st : List Value) (σ : dS), den mX7_readVariable 82 [l0, l1] st σ = den mX7_readVariable 86 [l0, l1] st σ) ∧
  (∀ (l0 l1 : Option Value) (st : List Value) (σ : dS), den mX7_readVariable 85 [l0, l1] st σ = den mX7_readVariable 86 [l0, l1] (.int (nI 0) :: st) σ) ∧
  (∀ (l0 l1 : Option Value) (v : Int32) (σ : dS), den mX7_readVariable 86 [l0, l1] [.int v] σ = some (some (.int v), σ)) :=
  ⟨fun l0 l1 st σ => dn_bipush eX7_readVariable dX7_readVariable_79 kc_bipush_97,
  fun l0 l1 x y st σ => dn_isub eX7_readVariable dX7_readVariable_81,
  fun l0 l1 st σ => dn_goto eX7_readVariable dX7_readVariable_82 (by decide),
  fun l0 l1 st σ => dn_iconst eX7_readVariable dX7_readVariable_85 kc_iconst_0,
  fun l0 l1 v σ => dn_ireturn eX7_readVariable dX7_readVariable_86 rfl⟩
theorem CX7_takes (a0 : Nat) (a1 : Int32) (σ : dS) : dcall mX7_takes [.ref a0, .int a1] σ = den mX7_takes 0 [some (.ref a0), some (.int a1)] [] σ := dcall_den (by decide) rfl
theorem rX7_takes_22 (l0 l1 : Option Value) (a0 : Int32) (a1 : Int32) (q : Nat) (σ : dS) : den mX7_takes 22 [l0, l1] [.int a1, .int a0, .ref q] σ = if disO σ q 6 = true then ((dcall mX7_requires [.ref q, .int a0, .int a1] σ).bind fun r => den mX7_takes 25 [l0, l1] (r.1.toList ++ []) r.2) else none := by
  by_cases h : disO σ q 6 = true
  · rw [if_pos h]; exact dn_callV (e := (0, 108, 902)) (as := [.int a0, .int a1]) (rest := []) eX7_takes dX7_takes_22 (by decide +kernel) rfl (by decide +kernel) rfl (dcat_le rfl) (dlen_le rfl) rfl h
  · rw [if_neg h]; exact den_noV (e := (0, 108, 902)) (as := [.int a0, .int a1]) (rest := []) eX7_takes dX7_takes_22 (by decide +kernel) rfl rfl rfl h
theorem rX7_takes_26 (l0 l1 : Option Value) (q : Nat) (σ : dS) : den mX7_takes 26 [l0, l1] [.ref q] σ = if disO σ q 6 = true then ((dcall mX7_reads [.ref q] σ).bind fun r => den mX7_takes 29 [l0, l1] (r.1.toList ++ []) r.2) else none := by
  by_cases h : disO σ q 6 = true
  · rw [if_pos h]; exact dn_callV (e := (0, 112, 890)) (as := []) (rest := []) eX7_takes dX7_takes_26 (by decide +kernel) rfl (by decide +kernel) rfl (dcat_le rfl) (dlen_le rfl) rfl h
  · rw [if_neg h]; exact den_noV (e := (0, 112, 890)) (as := []) (rest := []) eX7_takes dX7_takes_26 (by decide +kernel) rfl rfl rfl h
set_option maxRecDepth 20000 in
theorem SX7_takes : (∀ (l1 : Option Value) (x : Nat) (st : List Value) (σ : dS), den mX7_takes 0 [some (.ref x), l1] st σ = den mX7_takes 1 [some (.ref x), l1] (.ref x :: st) σ) ∧
  (∀ (l0 l1 : Option Value) (q : Nat) (st : List Value) (σ : dS), den mX7_takes 1 [l0, l1] (.ref q :: st) σ = (dget σ q 6 10).bind fun v => den mX7_takes 4 [l0, l1] (v :: st) σ) ∧
  (∀ (l0 l1 : Option Value) (x : Int32) (st : List Value) (σ : dS), den mX7_takes 4 [l0, l1] (.int x :: st) σ = if x = 0 then den mX7_takes 7 [l0, l1] st σ else den mX7_takes 25 [l0, l1] st σ) ∧
  (∀ (l1 : Option Value) (x : Nat) (st : List Value) (σ : dS), den mX7_takes 7 [some (.ref x), l1] st σ = den mX7_takes 8 [some (.ref x), l1] (.ref x :: st) σ) ∧
  (∀ (l1 : Option Value) (x : Nat) (st : List Value) (σ : dS), den mX7_takes 8 [some (.ref x), l1] st σ = den mX7_takes 9 [some (.ref x), l1] (.ref x :: st) σ) ∧
  (∀ (l0 l1 : Option Value) (q : Nat) (st : List Value) (σ : dS), den mX7_takes 9 [l0, l1] (.ref q :: st) σ = (dget σ q 6 8).bind fun v => den mX7_takes 12 [l0, l1] (v :: st) σ) ∧
  (∀ (l0 : Option Value) (x : Int32) (st : List Value) (σ : dS), den mX7_takes 12 [l0, some (.int x)] st σ = den mX7_takes 13 [l0, some (.int x)] (.int x :: st) σ) ∧
  (∀ (l0 l1 : Option Value) (x y : Int32) (st : List Value) (σ : dS), den mX7_takes 13 [l0, l1] (.int y :: .int x :: st) σ = if x = y then den mX7_takes 16 [l0, l1] st σ else den mX7_takes 20 [l0, l1] st σ) ∧
  (∀ (l0 l1 : Option Value) (st : List Value) (σ : dS), den mX7_takes 16 [l0, l1] st σ = den mX7_takes 17 [l0, l1] (.int (nI 1) :: st) σ) ∧
  (∀ (l0 l1 : Option Value) (st : List Value) (σ : dS), den mX7_takes 17 [l0, l1] st σ = den mX7_takes 21 [l0, l1] st σ) ∧
  (∀ (l0 l1 : Option Value) (st : List Value) (σ : dS), den mX7_takes 20 [l0, l1] st σ = den mX7_takes 21 [l0, l1] (.int (nI 0) :: st) σ) ∧
  (∀ (l0 l1 : Option Value) (st : List Value) (σ : dS), den mX7_takes 21 [l0, l1] st σ = den mX7_takes 22 [l0, l1] (.int (nI 2) :: st) σ) ∧
  (∀ (l0 l1 : Option Value) (a0 : Int32) (a1 : Int32) (q : Nat) (σ : dS), den mX7_takes 22 [l0, l1] [.int a1, .int a0, .ref q] σ = if disO σ q 6 = true then ((dcall mX7_requires [.ref q, .int a0, .int a1] σ).bind fun r => den mX7_takes 25 [l0, l1] (r.1.toList ++ []) r.2) else none) ∧
  (∀ (l1 : Option Value) (x : Nat) (st : List Value) (σ : dS), den mX7_takes 25 [some (.ref x), l1] st σ = den mX7_takes 26 [some (.ref x), l1] (.ref x :: st) σ) ∧
  (∀ (l0 l1 : Option Value) (q : Nat) (σ : dS), den mX7_takes 26 [l0, l1] [.ref q] σ = if disO σ q 6 = true then ((dcall mX7_reads [.ref q] σ).bind fun r => den mX7_takes 29 [l0, l1] (r.1.toList ++ []) r.2) else none) ∧
  (∀ (l0 l1 : Option Value) (σ : dS), den mX7_takes 29 [l0, l1] [] σ = some (none, σ)) :=
  ⟨fun l1 x st σ => dn_aload_n eX7_takes dX7_takes_0 rfl,
  fun l0 l1 q st σ => dn_getfield (f := (6, 10, 781)) eX7_takes dX7_takes_1 (by decide +kernel),
  fun l0 l1 x st σ => dn_if_ne eX7_takes dX7_takes_4 (by decide),
  fun l1 x st σ => dn_aload_n eX7_takes dX7_takes_7 rfl,
  fun l1 x st σ => dn_aload_n eX7_takes dX7_takes_8 rfl,
  fun l0 l1 q st σ => dn_getfield (f := (6, 8, 779)) eX7_takes dX7_takes_9 (by decide +kernel),
  fun l0 x st σ => dn_iload_n eX7_takes dX7_takes_12 rfl,
  fun l0 l1 x y st σ => dn_icmp_ne eX7_takes dX7_takes_13 (by decide),
  fun l0 l1 st σ => dn_iconst eX7_takes dX7_takes_16 kc_iconst_1,
  fun l0 l1 st σ => dn_goto eX7_takes dX7_takes_17 (by decide),
  fun l0 l1 st σ => dn_iconst eX7_takes dX7_takes_20 kc_iconst_0,
  fun l0 l1 st σ => dn_iconst eX7_takes dX7_takes_21 kc_iconst_2,
  fun l0 l1 a0 a1 q σ => rX7_takes_22 l0 l1 a0 a1 q σ,
  fun l1 x st σ => dn_aload_n eX7_takes dX7_takes_25 rfl,
  fun l0 l1 q σ => rX7_takes_26 l0 l1 q σ,
  fun l0 l1 σ => dn_return eX7_takes dX7_takes_29 rfl⟩
theorem CX7_readStatement (a0 : Nat) (σ : dS) : dcall mX7_readStatement [.ref a0] σ = den mX7_readStatement 0 [some (.ref a0), none, none] [] σ := dcall_den (by decide) rfl
theorem rX7_readStatement_1 (l0 l1 l2 : Option Value) (q : Nat) (σ : dS) : den mX7_readStatement 1 [l0, l1, l2] [.ref q] σ = if disO σ q 6 = true then ((dcall mX7_kindNow [.ref q] σ).bind fun r => den mX7_readStatement 4 [l0, l1, l2] (r.1.toList ++ []) r.2) else none := by
  by_cases h : disO σ q 6 = true
  · rw [if_pos h]; exact dn_callV (e := (0, 111, 918)) (as := []) (rest := []) eX7_readStatement dX7_readStatement_1 (by decide +kernel) rfl (by decide +kernel) rfl (dcat_le rfl) (dlen_le rfl) rfl h
  · rw [if_neg h]; exact den_noV (e := (0, 111, 918)) (as := []) (rest := []) eX7_readStatement dX7_readStatement_1 (by decide +kernel) rfl rfl rfl h
theorem rX7_readStatement_18 (l0 l1 l2 : Option Value) (a0 : Int32) (a1 : Int32) (q : Nat) (σ : dS) : den mX7_readStatement 18 [l0, l1, l2] [.int a1, .int a0, .ref q] σ = if disO σ q 6 = true then ((dcall mX7_requires [.ref q, .int a0, .int a1] σ).bind fun r => den mX7_readStatement 21 [l0, l1, l2] (r.1.toList ++ []) r.2) else none := by
  by_cases h : disO σ q 6 = true
  · rw [if_pos h]; exact dn_callV (e := (0, 108, 902)) (as := [.int a0, .int a1]) (rest := []) eX7_readStatement dX7_readStatement_18 (by decide +kernel) rfl (by decide +kernel) rfl (dcat_le rfl) (dlen_le rfl) rfl h
  · rw [if_neg h]; exact den_noV (e := (0, 108, 902)) (as := [.int a0, .int a1]) (rest := []) eX7_readStatement dX7_readStatement_18 (by decide +kernel) rfl rfl rfl h
theorem rX7_readStatement_40 (l0 l1 l2 : Option Value) (a0 : Int32) (a1 : Int32) (q : Nat) (σ : dS) : den mX7_readStatement 40 [l0, l1, l2] [.int a1, .int a0, .ref q] σ = if disO σ q 6 = true then ((dcall mX7_requires [.ref q, .int a0, .int a1] σ).bind fun r => den mX7_readStatement 43 [l0, l1, l2] (r.1.toList ++ []) r.2) else none := by
  by_cases h : disO σ q 6 = true
  · rw [if_pos h]; exact dn_callV (e := (0, 108, 902)) (as := [.int a0, .int a1]) (rest := []) eX7_readStatement dX7_readStatement_40 (by decide +kernel) rfl (by decide +kernel) rfl (dcat_le rfl) (dlen_le rfl) rfl h
  · rw [if_neg h]; exact den_noV (e := (0, 108, 902)) (as := [.int a0, .int a1]) (rest := []) eX7_readStatement dX7_readStatement_40 (by decide +kernel) rfl rfl rfl h
theorem rX7_readStatement_64 (l0 l1 l2 : Option Value) (a0 : Int32) (a1 : Int32) (q : Nat) (σ : dS) : den mX7_readStatement 64 [l0, l1, l2] [.int a1, .int a0, .ref q] σ = if disO σ q 6 = true then ((dcall mX7_requires [.ref q, .int a0, .int a1] σ).bind fun r => den mX7_readStatement 67 [l0, l1, l2] (r.1.toList ++ []) r.2) else none := by
  by_cases h : disO σ q 6 = true
  · rw [if_pos h]; exact dn_callV (e := (0, 108, 902)) (as := [.int a0, .int a1]) (rest := []) eX7_readStatement dX7_readStatement_64 (by decide +kernel) rfl (by decide +kernel) rfl (dcat_le rfl) (dlen_le rfl) rfl h
  · rw [if_neg h]; exact den_noV (e := (0, 108, 902)) (as := [.int a0, .int a1]) (rest := []) eX7_readStatement dX7_readStatement_64 (by decide +kernel) rfl rfl rfl h
theorem rX7_readStatement_136 (l0 l1 l2 : Option Value) (q : Nat) (σ : dS) : den mX7_readStatement 136 [l0, l1, l2] [.ref q] σ = if disO σ q 6 = true then ((dcall mX7_reads [.ref q] σ).bind fun r => den mX7_readStatement 139 [l0, l1, l2] (r.1.toList ++ []) r.2) else none := by
  by_cases h : disO σ q 6 = true
  · rw [if_pos h]; exact dn_callV (e := (0, 112, 890)) (as := []) (rest := []) eX7_readStatement dX7_readStatement_136 (by decide +kernel) rfl (by decide +kernel) rfl (dcat_le rfl) (dlen_le rfl) rfl h
  · rw [if_neg h]; exact den_noV (e := (0, 112, 890)) (as := []) (rest := []) eX7_readStatement dX7_readStatement_136 (by decide +kernel) rfl rfl rfl h
theorem rX7_readStatement_147 (l0 l1 l2 : Option Value) (b0 : Int32) (b1 : Nat) (q : Nat) (σ : dS) : den mX7_readStatement 147 [l0, l1, l2] [.ref q, .int b0, .ref b1] σ = if disO σ q 6 = true then ((dcall mX7_readVariable [.ref q] σ).bind fun r => den mX7_readStatement 150 [l0, l1, l2] (r.1.toList ++ [.int b0, .ref b1]) r.2) else none := by
  by_cases h : disO σ q 6 = true
  · rw [if_pos h]; exact dn_callV (e := (0, 114, 926)) (as := []) (rest := [.int b0, .ref b1]) eX7_readStatement dX7_readStatement_147 (by decide +kernel) rfl (by decide +kernel) rfl (dcat_le rfl) (dlen_le rfl) rfl h
  · rw [if_neg h]; exact den_noV (e := (0, 114, 926)) (as := []) (rest := [.int b0, .ref b1]) eX7_readStatement dX7_readStatement_147 (by decide +kernel) rfl rfl rfl h
theorem rX7_readStatement_180 (l0 l1 l2 : Option Value) (a0 : Int32) (a1 : Int32) (b0 : Int32) (b1 : Nat) (q : Nat) (σ : dS) : den mX7_readStatement 180 [l0, l1, l2] [.int a1, .int a0, .ref q, .int b0, .ref b1] σ = if disO σ q 6 = true then ((dcall mX7_readNumber [.ref q, .int a0, .int a1] σ).bind fun r => den mX7_readStatement 183 [l0, l1, l2] (r.1.toList ++ [.int b0, .ref b1]) r.2) else none := by
  by_cases h : disO σ q 6 = true
  · rw [if_pos h]; exact dn_callV (e := (0, 113, 931)) (as := [.int a0, .int a1]) (rest := [.int b0, .ref b1]) eX7_readStatement dX7_readStatement_180 (by decide +kernel) rfl (by decide +kernel) rfl (dcat_le rfl) (dlen_le rfl) rfl h
  · rw [if_neg h]; exact den_noV (e := (0, 113, 931)) (as := [.int a0, .int a1]) (rest := [.int b0, .ref b1]) eX7_readStatement dX7_readStatement_180 (by decide +kernel) rfl rfl rfl h
theorem rX7_readStatement_195 (l0 l1 l2 : Option Value) (b0 : Int32) (b1 : Nat) (q : Nat) (σ : dS) : den mX7_readStatement 195 [l0, l1, l2] [.ref q, .int b0, .ref b1] σ = if disO σ q 6 = true then ((dcall mX7_readVariable [.ref q] σ).bind fun r => den mX7_readStatement 198 [l0, l1, l2] (r.1.toList ++ [.int b0, .ref b1]) r.2) else none := by
  by_cases h : disO σ q 6 = true
  · rw [if_pos h]; exact dn_callV (e := (0, 114, 926)) (as := []) (rest := [.int b0, .ref b1]) eX7_readStatement dX7_readStatement_195 (by decide +kernel) rfl (by decide +kernel) rfl (dcat_le rfl) (dlen_le rfl) rfl h
  · rw [if_neg h]; exact den_noV (e := (0, 114, 926)) (as := []) (rest := [.int b0, .ref b1]) eX7_readStatement dX7_readStatement_195 (by decide +kernel) rfl rfl rfl h
theorem rX7_readStatement_207 (l0 l1 l2 : Option Value) (b0 : Int32) (b1 : Nat) (q : Nat) (σ : dS) : den mX7_readStatement 207 [l0, l1, l2] [.ref q, .int b0, .ref b1] σ = if disO σ q 6 = true then ((dcall mX7_readVariable [.ref q] σ).bind fun r => den mX7_readStatement 210 [l0, l1, l2] (r.1.toList ++ [.int b0, .ref b1]) r.2) else none := by
  by_cases h : disO σ q 6 = true
  · rw [if_pos h]; exact dn_callV (e := (0, 114, 926)) (as := []) (rest := [.int b0, .ref b1]) eX7_readStatement dX7_readStatement_207 (by decide +kernel) rfl (by decide +kernel) rfl (dcat_le rfl) (dlen_le rfl) rfl h
  · rw [if_neg h]; exact den_noV (e := (0, 114, 926)) (as := []) (rest := [.int b0, .ref b1]) eX7_readStatement dX7_readStatement_207 (by decide +kernel) rfl rfl rfl h
theorem rX7_readStatement_222 (l0 l1 l2 : Option Value) (a0 : Int32) (q : Nat) (σ : dS) : den mX7_readStatement 222 [l0, l1, l2] [.int a0, .ref q] σ = if disO σ q 6 = true then ((dcall mX7_takes [.ref q, .int a0] σ).bind fun r => den mX7_readStatement 225 [l0, l1, l2] (r.1.toList ++ []) r.2) else none := by
  by_cases h : disO σ q 6 = true
  · rw [if_pos h]; exact dn_callV (e := (0, 115, 910)) (as := [.int a0]) (rest := []) eX7_readStatement dX7_readStatement_222 (by decide +kernel) rfl (by decide +kernel) rfl (dcat_le rfl) (dlen_le rfl) rfl h
  · rw [if_neg h]; exact den_noV (e := (0, 115, 910)) (as := [.int a0]) (rest := []) eX7_readStatement dX7_readStatement_222 (by decide +kernel) rfl rfl rfl h
set_option maxRecDepth 20000 in
theorem SX7_readStatement_0 : (∀ (l1 l2 : Option Value) (x : Nat) (st : List Value) (σ : dS), den mX7_readStatement 0 [some (.ref x), l1, l2] st σ = den mX7_readStatement 1 [some (.ref x), l1, l2] (.ref x :: st) σ) ∧
  (∀ (l0 l1 l2 : Option Value) (q : Nat) (σ : dS), den mX7_readStatement 1 [l0, l1, l2] [.ref q] σ = if disO σ q 6 = true then ((dcall mX7_kindNow [.ref q] σ).bind fun r => den mX7_readStatement 4 [l0, l1, l2] (r.1.toList ++ []) r.2) else none) ∧
  (∀ (l1 l2 : Option Value) (x : Int32) (y : Nat) (st : List Value) (σ : dS), den mX7_readStatement 4 [some (.ref y), l1, l2] (.int x :: st) σ = den mX7_readStatement 5 [some (.ref y), some (.int x), l2] st σ) ∧
  (∀ (l1 l2 : Option Value) (x : Nat) (st : List Value) (σ : dS), den mX7_readStatement 5 [some (.ref x), l1, l2] st σ = den mX7_readStatement 6 [some (.ref x), l1, l2] (.ref x :: st) σ) ∧
  (∀ (l0 l2 : Option Value) (x : Int32) (st : List Value) (σ : dS), den mX7_readStatement 6 [l0, some (.int x), l2] st σ = den mX7_readStatement 7 [l0, some (.int x), l2] (.int x :: st) σ) ∧
  (∀ (l0 l1 l2 : Option Value) (st : List Value) (σ : dS), den mX7_readStatement 7 [l0, l1, l2] st σ = den mX7_readStatement 9 [l0, l1, l2] (.int ((-4)) :: st) σ) ∧
  (∀ (l0 l1 l2 : Option Value) (x y : Int32) (st : List Value) (σ : dS), den mX7_readStatement 9 [l0, l1, l2] (.int y :: .int x :: st) σ = if x = y then den mX7_readStatement 16 [l0, l1, l2] st σ else den mX7_readStatement 12 [l0, l1, l2] st σ) ∧
  (∀ (l0 l1 l2 : Option Value) (st : List Value) (σ : dS), den mX7_readStatement 12 [l0, l1, l2] st σ = den mX7_readStatement 13 [l0, l1, l2] (.int (nI 1) :: st) σ) ∧
  (∀ (l0 l1 l2 : Option Value) (st : List Value) (σ : dS), den mX7_readStatement 13 [l0, l1, l2] st σ = den mX7_readStatement 17 [l0, l1, l2] st σ) ∧
  (∀ (l0 l1 l2 : Option Value) (st : List Value) (σ : dS), den mX7_readStatement 16 [l0, l1, l2] st σ = den mX7_readStatement 17 [l0, l1, l2] (.int (nI 0) :: st) σ) ∧
  (∀ (l0 l1 l2 : Option Value) (st : List Value) (σ : dS), den mX7_readStatement 17 [l0, l1, l2] st σ = den mX7_readStatement 18 [l0, l1, l2] (.int (nI 2) :: st) σ) ∧
  (∀ (l0 l1 l2 : Option Value) (a0 : Int32) (a1 : Int32) (q : Nat) (σ : dS), den mX7_readStatement 18 [l0, l1, l2] [.int a1, .int a0, .ref q] σ = if disO σ q 6 = true then ((dcall mX7_requires [.ref q, .int a0, .int a1] σ).bind fun r => den mX7_readStatement 21 [l0, l1, l2] (r.1.toList ++ []) r.2) else none) ∧
  (∀ (l1 l2 : Option Value) (x : Nat) (st : List Value) (σ : dS), den mX7_readStatement 21 [some (.ref x), l1, l2] st σ = den mX7_readStatement 22 [some (.ref x), l1, l2] (.ref x :: st) σ) ∧
  (∀ (l1 l2 : Option Value) (x : Nat) (st : List Value) (σ : dS), den mX7_readStatement 22 [some (.ref x), l1, l2] st σ = den mX7_readStatement 23 [some (.ref x), l1, l2] (.ref x :: st) σ) ∧
  (∀ (l0 l1 l2 : Option Value) (q : Nat) (st : List Value) (σ : dS), den mX7_readStatement 23 [l0, l1, l2] (.ref q :: st) σ = (dget σ q 6 3).bind fun v => den mX7_readStatement 26 [l0, l1, l2] (v :: st) σ) ∧
  (∀ (l0 l1 l2 : Option Value) (st : List Value) (σ : dS), den mX7_readStatement 26 [l0, l1, l2] st σ = den mX7_readStatement 28 [l0, l1, l2] (.int (nI 120) :: st) σ) ∧
  (∀ (l0 l1 l2 : Option Value) (q : Nat) (i : Int32) (st : List Value) (σ : dS), den mX7_readStatement 28 [l0, l1, l2] (.int i :: .ref q :: st) σ = if q ≤ dN then (dald σ q 0 i).bind (fun v => den mX7_readStatement 29 [l0, l1, l2] (.int v :: st) σ) else none) ∧
  (∀ (l0 l1 l2 : Option Value) (st : List Value) (σ : dS), den mX7_readStatement 29 [l0, l1, l2] st σ = den mX7_readStatement 31 [l0, l1, l2] (.int (nI 24) :: st) σ) ∧
  (∀ (l0 l1 l2 : Option Value) (x y : Int32) (st : List Value) (σ : dS), den mX7_readStatement 31 [l0, l1, l2] (.int y :: .int x :: st) σ = if x < y then den mX7_readStatement 34 [l0, l1, l2] st σ else den mX7_readStatement 38 [l0, l1, l2] st σ) ∧
  (∀ (l0 l1 l2 : Option Value) (st : List Value) (σ : dS), den mX7_readStatement 34 [l0, l1, l2] st σ = den mX7_readStatement 35 [l0, l1, l2] (.int (nI 1) :: st) σ) ∧
  (∀ (l0 l1 l2 : Option Value) (st : List Value) (σ : dS), den mX7_readStatement 35 [l0, l1, l2] st σ = den mX7_readStatement 39 [l0, l1, l2] st σ) ∧
  (∀ (l0 l1 l2 : Option Value) (st : List Value) (σ : dS), den mX7_readStatement 38 [l0, l1, l2] st σ = den mX7_readStatement 39 [l0, l1, l2] (.int (nI 0) :: st) σ) ∧
  (∀ (l0 l1 l2 : Option Value) (st : List Value) (σ : dS), den mX7_readStatement 39 [l0, l1, l2] st σ = den mX7_readStatement 40 [l0, l1, l2] (.int (nI 5) :: st) σ) ∧
  (∀ (l0 l1 l2 : Option Value) (a0 : Int32) (a1 : Int32) (q : Nat) (σ : dS), den mX7_readStatement 40 [l0, l1, l2] [.int a1, .int a0, .ref q] σ = if disO σ q 6 = true then ((dcall mX7_requires [.ref q, .int a0, .int a1] σ).bind fun r => den mX7_readStatement 43 [l0, l1, l2] (r.1.toList ++ []) r.2) else none) ∧
  (∀ (l1 l2 : Option Value) (x : Nat) (st : List Value) (σ : dS), den mX7_readStatement 43 [some (.ref x), l1, l2] st σ = den mX7_readStatement 44 [some (.ref x), l1, l2] (.ref x :: st) σ) ∧
  (∀ (l0 l2 : Option Value) (x : Int32) (st : List Value) (σ : dS), den mX7_readStatement 44 [l0, some (.int x), l2] st σ = den mX7_readStatement 45 [l0, some (.int x), l2] (.int x :: st) σ) ∧
  (∀ (l0 l1 l2 : Option Value) (st : List Value) (σ : dS), den mX7_readStatement 45 [l0, l1, l2] st σ = den mX7_readStatement 46 [l0, l1, l2] (.int (nI 5) :: st) σ) ∧
  (∀ (l0 l1 l2 : Option Value) (x y : Int32) (st : List Value) (σ : dS), den mX7_readStatement 46 [l0, l1, l2] (.int y :: .int x :: st) σ = if x = y then den mX7_readStatement 49 [l0, l1, l2] st σ else den mX7_readStatement 58 [l0, l1, l2] st σ) ∧
  (∀ (l1 l2 : Option Value) (x : Nat) (st : List Value) (σ : dS), den mX7_readStatement 49 [some (.ref x), l1, l2] st σ = den mX7_readStatement 50 [some (.ref x), l1, l2] (.ref x :: st) σ) ∧
  (∀ (l0 l1 l2 : Option Value) (q : Nat) (st : List Value) (σ : dS), den mX7_readStatement 50 [l0, l1, l2] (.ref q :: st) σ = (dget σ q 6 14).bind fun v => den mX7_readStatement 53 [l0, l1, l2] (v :: st) σ) ∧
  (∀ (l0 l1 l2 : Option Value) (st : List Value) (σ : dS), den mX7_readStatement 53 [l0, l1, l2] st σ = den mX7_readStatement 55 [l0, l1, l2] (.int (nI 6) :: st) σ) ∧
  (∀ (l0 l1 l2 : Option Value) (x y : Int32) (st : List Value) (σ : dS), den mX7_readStatement 55 [l0, l1, l2] (.int y :: .int x :: st) σ = if x < y then den mX7_readStatement 58 [l0, l1, l2] st σ else den mX7_readStatement 62 [l0, l1, l2] st σ) ∧
  (∀ (l0 l1 l2 : Option Value) (st : List Value) (σ : dS), den mX7_readStatement 58 [l0, l1, l2] st σ = den mX7_readStatement 59 [l0, l1, l2] (.int (nI 1) :: st) σ) ∧
  (∀ (l0 l1 l2 : Option Value) (st : List Value) (σ : dS), den mX7_readStatement 59 [l0, l1, l2] st σ = den mX7_readStatement 63 [l0, l1, l2] st σ) ∧
  (∀ (l0 l1 l2 : Option Value) (st : List Value) (σ : dS), den mX7_readStatement 62 [l0, l1, l2] st σ = den mX7_readStatement 63 [l0, l1, l2] (.int (nI 0) :: st) σ) ∧
  (∀ (l0 l1 l2 : Option Value) (st : List Value) (σ : dS), den mX7_readStatement 63 [l0, l1, l2] st σ = den mX7_readStatement 64 [l0, l1, l2] (.int (nI 5) :: st) σ) ∧
  (∀ (l0 l1 l2 : Option Value) (a0 : Int32) (a1 : Int32) (q : Nat) (σ : dS), den mX7_readStatement 64 [l0, l1, l2] [.int a1, .int a0, .ref q] σ = if disO σ q 6 = true then ((dcall mX7_requires [.ref q, .int a0, .int a1] σ).bind fun r => den mX7_readStatement 67 [l0, l1, l2] (r.1.toList ++ []) r.2) else none) ∧
  (∀ (l1 l2 : Option Value) (x : Nat) (st : List Value) (σ : dS), den mX7_readStatement 67 [some (.ref x), l1, l2] st σ = den mX7_readStatement 68 [some (.ref x), l1, l2] (.ref x :: st) σ) ∧
  (∀ (l0 l1 l2 : Option Value) (q : Nat) (st : List Value) (σ : dS), den mX7_readStatement 68 [l0, l1, l2] (.ref q :: st) σ = (dget σ q 6 10).bind fun v => den mX7_readStatement 71 [l0, l1, l2] (v :: st) σ) ∧
  (∀ (l0 l1 l2 : Option Value) (x : Int32) (st : List Value) (σ : dS), den mX7_readStatement 71 [l0, l1, l2] (.int x :: st) σ = if 0 < x then den mX7_readStatement 74 [l0, l1, l2] st σ else den mX7_readStatement 75 [l0, l1, l2] st σ) :=
  ⟨fun l1 l2 x st σ => dn_aload_n eX7_readStatement dX7_readStatement_0 rfl,
  fun l0 l1 l2 q σ => rX7_readStatement_1 l0 l1 l2 q σ,
  fun l1 l2 x y st σ => dn_istore_n eX7_readStatement dX7_readStatement_4 rfl,
  fun l1 l2 x st σ => dn_aload_n eX7_readStatement dX7_readStatement_5 rfl,
  fun l0 l2 x st σ => dn_iload_n eX7_readStatement dX7_readStatement_6 rfl,
  fun l0 l1 l2 st σ => dn_bipush eX7_readStatement dX7_readStatement_7 kc_bipush_m4,
  fun l0 l1 l2 x y st σ => dn_icmp_eq eX7_readStatement dX7_readStatement_9 (by decide),
  fun l0 l1 l2 st σ => dn_iconst eX7_readStatement dX7_readStatement_12 kc_iconst_1,
  fun l0 l1 l2 st σ => dn_goto eX7_readStatement dX7_readStatement_13 (by decide),
  fun l0 l1 l2 st σ => dn_iconst eX7_readStatement dX7_readStatement_16 kc_iconst_0,
  fun l0 l1 l2 st σ => dn_iconst eX7_readStatement dX7_readStatement_17 kc_iconst_2,
  fun l0 l1 l2 a0 a1 q σ => rX7_readStatement_18 l0 l1 l2 a0 a1 q σ,
  fun l1 l2 x st σ => dn_aload_n eX7_readStatement dX7_readStatement_21 rfl,
  fun l1 l2 x st σ => dn_aload_n eX7_readStatement dX7_readStatement_22 rfl,
  fun l0 l1 l2 q st σ => dn_getfield (f := (6, 3, 774)) eX7_readStatement dX7_readStatement_23 (by decide +kernel),
  fun l0 l1 l2 st σ => dn_bipush eX7_readStatement dX7_readStatement_26 kc_bipush_120,
  fun l0 l1 l2 q i st σ => dn_iaload eX7_readStatement dX7_readStatement_28,
  fun l0 l1 l2 st σ => dn_bipush eX7_readStatement dX7_readStatement_29 kc_bipush_24,
  fun l0 l1 l2 x y st σ => dn_icmp_ge eX7_readStatement dX7_readStatement_31 (by decide),
  fun l0 l1 l2 st σ => dn_iconst eX7_readStatement dX7_readStatement_34 kc_iconst_1,
  fun l0 l1 l2 st σ => dn_goto eX7_readStatement dX7_readStatement_35 (by decide),
  fun l0 l1 l2 st σ => dn_iconst eX7_readStatement dX7_readStatement_38 kc_iconst_0,
  fun l0 l1 l2 st σ => dn_iconst eX7_readStatement dX7_readStatement_39 kc_iconst_5,
  fun l0 l1 l2 a0 a1 q σ => rX7_readStatement_40 l0 l1 l2 a0 a1 q σ,
  fun l1 l2 x st σ => dn_aload_n eX7_readStatement dX7_readStatement_43 rfl,
  fun l0 l2 x st σ => dn_iload_n eX7_readStatement dX7_readStatement_44 rfl,
  fun l0 l1 l2 st σ => dn_iconst eX7_readStatement dX7_readStatement_45 kc_iconst_5,
  fun l0 l1 l2 x y st σ => dn_icmp_ne eX7_readStatement dX7_readStatement_46 (by decide),
  fun l1 l2 x st σ => dn_aload_n eX7_readStatement dX7_readStatement_49 rfl,
  fun l0 l1 l2 q st σ => dn_getfield (f := (6, 14, 785)) eX7_readStatement dX7_readStatement_50 (by decide +kernel),
  fun l0 l1 l2 st σ => dn_bipush eX7_readStatement dX7_readStatement_53 kc_bipush_6,
  fun l0 l1 l2 x y st σ => dn_icmp_ge eX7_readStatement dX7_readStatement_55 (by decide),
  fun l0 l1 l2 st σ => dn_iconst eX7_readStatement dX7_readStatement_58 kc_iconst_1,
  fun l0 l1 l2 st σ => dn_goto eX7_readStatement dX7_readStatement_59 (by decide),
  fun l0 l1 l2 st σ => dn_iconst eX7_readStatement dX7_readStatement_62 kc_iconst_0,
  fun l0 l1 l2 st σ => dn_iconst eX7_readStatement dX7_readStatement_63 kc_iconst_5,
  fun l0 l1 l2 a0 a1 q σ => rX7_readStatement_64 l0 l1 l2 a0 a1 q σ,
  fun l1 l2 x st σ => dn_aload_n eX7_readStatement dX7_readStatement_67 rfl,
  fun l0 l1 l2 q st σ => dn_getfield (f := (6, 10, 781)) eX7_readStatement dX7_readStatement_68 (by decide +kernel),
  fun l0 l1 l2 x st σ => dn_if_le eX7_readStatement dX7_readStatement_71 (by decide)⟩
set_option maxRecDepth 20000 in
theorem SX7_readStatement_1 : (∀ (l0 l1 l2 : Option Value) (σ : dS), den mX7_readStatement 74 [l0, l1, l2] [] σ = some (none, σ)) ∧
  (∀ (l0 l1 l2 : Option Value) (st : List Value) (σ : dS), den mX7_readStatement 75 [l0, l1, l2] st σ = den mX7_readStatement 76 [l0, l1, l2] (.int (nI 5) :: st) σ) ∧
  (∀ (l1 l2 : Option Value) (x : Nat) (st : List Value) (σ : dS), den mX7_readStatement 76 [some (.ref x), l1, l2] st σ = den mX7_readStatement 77 [some (.ref x), l1, l2] (.ref x :: st) σ) ∧
  (∀ (l0 l1 l2 : Option Value) (q : Nat) (st : List Value) (σ : dS), den mX7_readStatement 77 [l0, l1, l2] (.ref q :: st) σ = (dget σ q 6 3).bind fun v => den mX7_readStatement 80 [l0, l1, l2] (v :: st) σ) ∧
  (∀ (l0 l1 l2 : Option Value) (st : List Value) (σ : dS), den mX7_readStatement 80 [l0, l1, l2] st σ = den mX7_readStatement 82 [l0, l1, l2] (.int (nI 120) :: st) σ) ∧
  (∀ (l0 l1 l2 : Option Value) (q : Nat) (i : Int32) (st : List Value) (σ : dS), den mX7_readStatement 82 [l0, l1, l2] (.int i :: .ref q :: st) σ = if q ≤ dN then (dald σ q 0 i).bind (fun v => den mX7_readStatement 83 [l0, l1, l2] (.int v :: st) σ) else none) ∧
  (∀ (l0 l1 l2 : Option Value) (x y : Int32) (st : List Value) (σ : dS), den mX7_readStatement 83 [l0, l1, l2] (.int y :: .int x :: st) σ = den mX7_readStatement 84 [l0, l1, l2] (.int (x * y) :: st) σ) ∧
  (∀ (l0 l2 : Option Value) (x : Int32) (y : Int32) (st : List Value) (σ : dS), den mX7_readStatement 84 [l0, some (.int y), l2] (.int x :: st) σ = den mX7_readStatement 85 [l0, some (.int y), some (.int x)] st σ) ∧
  (∀ (l1 l2 : Option Value) (x : Nat) (st : List Value) (σ : dS), den mX7_readStatement 85 [some (.ref x), l1, l2] st σ = den mX7_readStatement 86 [some (.ref x), l1, l2] (.ref x :: st) σ) ∧
  (∀ (l0 l1 l2 : Option Value) (q : Nat) (st : List Value) (σ : dS), den mX7_readStatement 86 [l0, l1, l2] (.ref q :: st) σ = (dget σ q 6 3).bind fun v => den mX7_readStatement 89 [l0, l1, l2] (v :: st) σ) ∧
  (∀ (l0 l1 l2 : Option Value) (st : List Value) (σ : dS), den mX7_readStatement 89 [l0, l1, l2] st σ = den mX7_readStatement 91 [l0, l1, l2] (.int (nI 120) :: st) σ) ∧
  (∀ (l0 l1 l2 : Option Value) (x : Int32) (y : Nat) (st : List Value) (σ : dS), den mX7_readStatement 91 [l0, l1, l2] (.int x :: .ref y :: st) σ = den mX7_readStatement 92 [l0, l1, l2] (.int x :: .ref y :: .int x :: .ref y :: st) σ) ∧
  (∀ (l0 l1 l2 : Option Value) (q : Nat) (i : Int32) (st : List Value) (σ : dS), den mX7_readStatement 92 [l0, l1, l2] (.int i :: .ref q :: st) σ = if q ≤ dN then (dald σ q 0 i).bind (fun v => den mX7_readStatement 93 [l0, l1, l2] (.int v :: st) σ) else none) ∧
  (∀ (l0 l1 l2 : Option Value) (st : List Value) (σ : dS), den mX7_readStatement 93 [l0, l1, l2] st σ = den mX7_readStatement 94 [l0, l1, l2] (.int (nI 1) :: st) σ) ∧
  (∀ (l0 l1 l2 : Option Value) (x y : Int32) (st : List Value) (σ : dS), den mX7_readStatement 94 [l0, l1, l2] (.int y :: .int x :: st) σ = den mX7_readStatement 95 [l0, l1, l2] (.int (x + y) :: st) σ) ∧
  (∀ (l0 l1 l2 : Option Value) (q : Nat) (i x : Int32) (st : List Value) (σ : dS), den mX7_readStatement 95 [l0, l1, l2] (.int x :: .int i :: .ref q :: st) σ = (dast σ q 0 i x).bind fun τ => den mX7_readStatement 96 [l0, l1, l2] st τ) ∧
  (∀ (l1 l2 : Option Value) (x : Nat) (st : List Value) (σ : dS), den mX7_readStatement 96 [some (.ref x), l1, l2] st σ = den mX7_readStatement 97 [some (.ref x), l1, l2] (.ref x :: st) σ) ∧
  (∀ (l0 l1 l2 : Option Value) (q : Nat) (st : List Value) (σ : dS), den mX7_readStatement 97 [l0, l1, l2] (.ref q :: st) σ = (dget σ q 6 3).bind fun v => den mX7_readStatement 100 [l0, l1, l2] (v :: st) σ) ∧
  (∀ (l0 l1 : Option Value) (x : Int32) (st : List Value) (σ : dS), den mX7_readStatement 100 [l0, l1, some (.int x)] st σ = den mX7_readStatement 101 [l0, l1, some (.int x)] (.int x :: st) σ) ∧
  (∀ (l0 l1 l2 : Option Value) (st : List Value) (σ : dS), den mX7_readStatement 101 [l0, l1, l2] st σ = den mX7_readStatement 102 [l0, l1, l2] (.int (nI 0) :: st) σ) ∧
  (∀ (l0 l1 l2 : Option Value) (x y : Int32) (st : List Value) (σ : dS), den mX7_readStatement 102 [l0, l1, l2] (.int y :: .int x :: st) σ = den mX7_readStatement 103 [l0, l1, l2] (.int (x + y) :: st) σ) ∧
  (∀ (l0 l2 : Option Value) (x : Int32) (st : List Value) (σ : dS), den mX7_readStatement 103 [l0, some (.int x), l2] st σ = den mX7_readStatement 104 [l0, some (.int x), l2] (.int x :: st) σ) ∧
  (∀ (l0 l1 l2 : Option Value) (q : Nat) (i x : Int32) (st : List Value) (σ : dS), den mX7_readStatement 104 [l0, l1, l2] (.int x :: .int i :: .ref q :: st) σ = (dast σ q 0 i x).bind fun τ => den mX7_readStatement 105 [l0, l1, l2] st τ) ∧
  (∀ (l1 l2 : Option Value) (x : Nat) (st : List Value) (σ : dS), den mX7_readStatement 105 [some (.ref x), l1, l2] st σ = den mX7_readStatement 106 [some (.ref x), l1, l2] (.ref x :: st) σ) ∧
  (∀ (l0 l1 l2 : Option Value) (q : Nat) (st : List Value) (σ : dS), den mX7_readStatement 106 [l0, l1, l2] (.ref q :: st) σ = (dget σ q 6 3).bind fun v => den mX7_readStatement 109 [l0, l1, l2] (v :: st) σ) ∧
  (∀ (l0 l1 : Option Value) (x : Int32) (st : List Value) (σ : dS), den mX7_readStatement 109 [l0, l1, some (.int x)] st σ = den mX7_readStatement 110 [l0, l1, some (.int x)] (.int x :: st) σ) ∧
  (∀ (l0 l1 l2 : Option Value) (st : List Value) (σ : dS), den mX7_readStatement 110 [l0, l1, l2] st σ = den mX7_readStatement 111 [l0, l1, l2] (.int (nI 4) :: st) σ) ∧
  (∀ (l0 l1 l2 : Option Value) (x y : Int32) (st : List Value) (σ : dS), den mX7_readStatement 111 [l0, l1, l2] (.int y :: .int x :: st) σ = den mX7_readStatement 112 [l0, l1, l2] (.int (x + y) :: st) σ) ∧
  (∀ (l1 l2 : Option Value) (x : Nat) (st : List Value) (σ : dS), den mX7_readStatement 112 [some (.ref x), l1, l2] st σ = den mX7_readStatement 113 [some (.ref x), l1, l2] (.ref x :: st) σ) ∧
  (∀ (l0 l1 l2 : Option Value) (q : Nat) (st : List Value) (σ : dS), den mX7_readStatement 113 [l0, l1, l2] (.ref q :: st) σ = (dget σ q 6 13).bind fun v => den mX7_readStatement 116 [l0, l1, l2] (v :: st) σ) ∧
  (∀ (l0 l1 l2 : Option Value) (x : Int32) (st : List Value) (σ : dS), den mX7_readStatement 116 [l0, l1, l2] (.int x :: st) σ = if x = 0 then den mX7_readStatement 119 [l0, l1, l2] st σ else den mX7_readStatement 123 [l0, l1, l2] st σ) ∧
  (∀ (l0 l1 l2 : Option Value) (st : List Value) (σ : dS), den mX7_readStatement 119 [l0, l1, l2] st σ = den mX7_readStatement 120 [l0, l1, l2] (.int (nI 0) :: st) σ) ∧
  (∀ (l0 l1 l2 : Option Value) (st : List Value) (σ : dS), den mX7_readStatement 120 [l0, l1, l2] st σ = den mX7_readStatement 134 [l0, l1, l2] st σ) ∧
  (∀ (l1 l2 : Option Value) (x : Nat) (st : List Value) (σ : dS), den mX7_readStatement 123 [some (.ref x), l1, l2] st σ = den mX7_readStatement 124 [some (.ref x), l1, l2] (.ref x :: st) σ) ∧
  (∀ (l0 l1 l2 : Option Value) (q : Nat) (st : List Value) (σ : dS), den mX7_readStatement 124 [l0, l1, l2] (.ref q :: st) σ = (dget σ q 6 12).bind fun v => den mX7_readStatement 127 [l0, l1, l2] (v :: st) σ) ∧
  (∀ (l1 l2 : Option Value) (x : Nat) (st : List Value) (σ : dS), den mX7_readStatement 127 [some (.ref x), l1, l2] st σ = den mX7_readStatement 128 [some (.ref x), l1, l2] (.ref x :: st) σ) ∧
  (∀ (l0 l1 l2 : Option Value) (q : Nat) (st : List Value) (σ : dS), den mX7_readStatement 128 [l0, l1, l2] (.ref q :: st) σ = (dget σ q 6 13).bind fun v => den mX7_readStatement 131 [l0, l1, l2] (v :: st) σ) ∧
  (∀ (l0 l1 l2 : Option Value) (st : List Value) (σ : dS), den mX7_readStatement 131 [l0, l1, l2] st σ = den mX7_readStatement 132 [l0, l1, l2] (.int (nI 1) :: st) σ) ∧
  (∀ (l0 l1 l2 : Option Value) (x y : Int32) (st : List Value) (σ : dS), den mX7_readStatement 132 [l0, l1, l2] (.int y :: .int x :: st) σ = den mX7_readStatement 133 [l0, l1, l2] (.int (x - y) :: st) σ) ∧
  (∀ (l0 l1 l2 : Option Value) (q : Nat) (i : Int32) (st : List Value) (σ : dS), den mX7_readStatement 133 [l0, l1, l2] (.int i :: .ref q :: st) σ = if q ≤ dN then (dald σ q 0 i).bind (fun v => den mX7_readStatement 134 [l0, l1, l2] (.int v :: st) σ) else none) :=
  ⟨fun l0 l1 l2 σ => dn_return eX7_readStatement dX7_readStatement_74 rfl,
  fun l0 l1 l2 st σ => dn_iconst eX7_readStatement dX7_readStatement_75 kc_iconst_5,
  fun l1 l2 x st σ => dn_aload_n eX7_readStatement dX7_readStatement_76 rfl,
  fun l0 l1 l2 q st σ => dn_getfield (f := (6, 3, 774)) eX7_readStatement dX7_readStatement_77 (by decide +kernel),
  fun l0 l1 l2 st σ => dn_bipush eX7_readStatement dX7_readStatement_80 kc_bipush_120,
  fun l0 l1 l2 q i st σ => dn_iaload eX7_readStatement dX7_readStatement_82,
  fun l0 l1 l2 x y st σ => dn_imul eX7_readStatement dX7_readStatement_83,
  fun l0 l2 x y st σ => dn_istore_n eX7_readStatement dX7_readStatement_84 rfl,
  fun l1 l2 x st σ => dn_aload_n eX7_readStatement dX7_readStatement_85 rfl,
  fun l0 l1 l2 q st σ => dn_getfield (f := (6, 3, 774)) eX7_readStatement dX7_readStatement_86 (by decide +kernel),
  fun l0 l1 l2 st σ => dn_bipush eX7_readStatement dX7_readStatement_89 kc_bipush_120,
  fun l0 l1 l2 x y st σ => dn_dup2 eX7_readStatement dX7_readStatement_91 rfl rfl,
  fun l0 l1 l2 q i st σ => dn_iaload eX7_readStatement dX7_readStatement_92,
  fun l0 l1 l2 st σ => dn_iconst eX7_readStatement dX7_readStatement_93 kc_iconst_1,
  fun l0 l1 l2 x y st σ => dn_iadd eX7_readStatement dX7_readStatement_94,
  fun l0 l1 l2 q i x st σ => dn_iastore eX7_readStatement dX7_readStatement_95,
  fun l1 l2 x st σ => dn_aload_n eX7_readStatement dX7_readStatement_96 rfl,
  fun l0 l1 l2 q st σ => dn_getfield (f := (6, 3, 774)) eX7_readStatement dX7_readStatement_97 (by decide +kernel),
  fun l0 l1 x st σ => dn_iload_n eX7_readStatement dX7_readStatement_100 rfl,
  fun l0 l1 l2 st σ => dn_iconst eX7_readStatement dX7_readStatement_101 kc_iconst_0,
  fun l0 l1 l2 x y st σ => dn_iadd eX7_readStatement dX7_readStatement_102,
  fun l0 l2 x st σ => dn_iload_n eX7_readStatement dX7_readStatement_103 rfl,
  fun l0 l1 l2 q i x st σ => dn_iastore eX7_readStatement dX7_readStatement_104,
  fun l1 l2 x st σ => dn_aload_n eX7_readStatement dX7_readStatement_105 rfl,
  fun l0 l1 l2 q st σ => dn_getfield (f := (6, 3, 774)) eX7_readStatement dX7_readStatement_106 (by decide +kernel),
  fun l0 l1 x st σ => dn_iload_n eX7_readStatement dX7_readStatement_109 rfl,
  fun l0 l1 l2 st σ => dn_iconst eX7_readStatement dX7_readStatement_110 kc_iconst_4,
  fun l0 l1 l2 x y st σ => dn_iadd eX7_readStatement dX7_readStatement_111,
  fun l1 l2 x st σ => dn_aload_n eX7_readStatement dX7_readStatement_112 rfl,
  fun l0 l1 l2 q st σ => dn_getfield (f := (6, 13, 784)) eX7_readStatement dX7_readStatement_113 (by decide +kernel),
  fun l0 l1 l2 x st σ => dn_if_ne eX7_readStatement dX7_readStatement_116 (by decide),
  fun l0 l1 l2 st σ => dn_iconst eX7_readStatement dX7_readStatement_119 kc_iconst_0,
  fun l0 l1 l2 st σ => dn_goto eX7_readStatement dX7_readStatement_120 (by decide),
  fun l1 l2 x st σ => dn_aload_n eX7_readStatement dX7_readStatement_123 rfl,
  fun l0 l1 l2 q st σ => dn_getfield (f := (6, 12, 783)) eX7_readStatement dX7_readStatement_124 (by decide +kernel),
  fun l1 l2 x st σ => dn_aload_n eX7_readStatement dX7_readStatement_127 rfl,
  fun l0 l1 l2 q st σ => dn_getfield (f := (6, 13, 784)) eX7_readStatement dX7_readStatement_128 (by decide +kernel),
  fun l0 l1 l2 st σ => dn_iconst eX7_readStatement dX7_readStatement_131 kc_iconst_1,
  fun l0 l1 l2 x y st σ => dn_isub eX7_readStatement dX7_readStatement_132,
  fun l0 l1 l2 q i st σ => dn_iaload eX7_readStatement dX7_readStatement_133⟩
set_option maxRecDepth 20000 in
theorem SX7_readStatement_2 : (∀ (l0 l1 l2 : Option Value) (q : Nat) (i x : Int32) (st : List Value) (σ : dS), den mX7_readStatement 134 [l0, l1, l2] (.int x :: .int i :: .ref q :: st) σ = (dast σ q 0 i x).bind fun τ => den mX7_readStatement 135 [l0, l1, l2] st τ) ∧
  (∀ (l1 l2 : Option Value) (x : Nat) (st : List Value) (σ : dS), den mX7_readStatement 135 [some (.ref x), l1, l2] st σ = den mX7_readStatement 136 [some (.ref x), l1, l2] (.ref x :: st) σ) ∧
  (∀ (l0 l1 l2 : Option Value) (q : Nat) (σ : dS), den mX7_readStatement 136 [l0, l1, l2] [.ref q] σ = if disO σ q 6 = true then ((dcall mX7_reads [.ref q] σ).bind fun r => den mX7_readStatement 139 [l0, l1, l2] (r.1.toList ++ []) r.2) else none) ∧
  (∀ (l1 l2 : Option Value) (x : Nat) (st : List Value) (σ : dS), den mX7_readStatement 139 [some (.ref x), l1, l2] st σ = den mX7_readStatement 140 [some (.ref x), l1, l2] (.ref x :: st) σ) ∧
  (∀ (l0 l1 l2 : Option Value) (q : Nat) (st : List Value) (σ : dS), den mX7_readStatement 140 [l0, l1, l2] (.ref q :: st) σ = (dget σ q 6 3).bind fun v => den mX7_readStatement 143 [l0, l1, l2] (v :: st) σ) ∧
  (∀ (l0 l1 : Option Value) (x : Int32) (st : List Value) (σ : dS), den mX7_readStatement 143 [l0, l1, some (.int x)] st σ = den mX7_readStatement 144 [l0, l1, some (.int x)] (.int x :: st) σ) ∧
  (∀ (l0 l1 l2 : Option Value) (st : List Value) (σ : dS), den mX7_readStatement 144 [l0, l1, l2] st σ = den mX7_readStatement 145 [l0, l1, l2] (.int (nI 1) :: st) σ) ∧
  (∀ (l0 l1 l2 : Option Value) (x y : Int32) (st : List Value) (σ : dS), den mX7_readStatement 145 [l0, l1, l2] (.int y :: .int x :: st) σ = den mX7_readStatement 146 [l0, l1, l2] (.int (x + y) :: st) σ) ∧
  (∀ (l1 l2 : Option Value) (x : Nat) (st : List Value) (σ : dS), den mX7_readStatement 146 [some (.ref x), l1, l2] st σ = den mX7_readStatement 147 [some (.ref x), l1, l2] (.ref x :: st) σ) ∧
  (∀ (l0 l1 l2 : Option Value) (b0 : Int32) (b1 : Nat) (q : Nat) (σ : dS), den mX7_readStatement 147 [l0, l1, l2] [.ref q, .int b0, .ref b1] σ = if disO σ q 6 = true then ((dcall mX7_readVariable [.ref q] σ).bind fun r => den mX7_readStatement 150 [l0, l1, l2] (r.1.toList ++ [.int b0, .ref b1]) r.2) else none) ∧
  (∀ (l0 l1 l2 : Option Value) (q : Nat) (i x : Int32) (st : List Value) (σ : dS), den mX7_readStatement 150 [l0, l1, l2] (.int x :: .int i :: .ref q :: st) σ = (dast σ q 0 i x).bind fun τ => den mX7_readStatement 151 [l0, l1, l2] st τ) ∧
  (∀ (l0 l2 : Option Value) (x : Int32) (st : List Value) (σ : dS), den mX7_readStatement 151 [l0, some (.int x), l2] st σ = den mX7_readStatement 152 [l0, some (.int x), l2] (.int x :: st) σ) ∧
  (∀ (l0 l1 l2 : Option Value) (x : Int32) (st : List Value) (σ : dS), den mX7_readStatement 152 [l0, l1, l2] (.int x :: st) σ = if x = 0 then den mX7_readStatement 160 [l0, l1, l2] st σ else den mX7_readStatement 155 [l0, l1, l2] st σ) ∧
  (∀ (l0 l2 : Option Value) (x : Int32) (st : List Value) (σ : dS), den mX7_readStatement 155 [l0, some (.int x), l2] st σ = den mX7_readStatement 156 [l0, some (.int x), l2] (.int x :: st) σ) ∧
  (∀ (l0 l1 l2 : Option Value) (st : List Value) (σ : dS), den mX7_readStatement 156 [l0, l1, l2] st σ = den mX7_readStatement 157 [l0, l1, l2] (.int (nI 5) :: st) σ) ∧
  (∀ (l0 l1 l2 : Option Value) (x y : Int32) (st : List Value) (σ : dS), den mX7_readStatement 157 [l0, l1, l2] (.int y :: .int x :: st) σ = if x = y then den mX7_readStatement 160 [l0, l1, l2] st σ else den mX7_readStatement 187 [l0, l1, l2] st σ) ∧
  (∀ (l1 l2 : Option Value) (x : Nat) (st : List Value) (σ : dS), den mX7_readStatement 160 [some (.ref x), l1, l2] st σ = den mX7_readStatement 161 [some (.ref x), l1, l2] (.ref x :: st) σ) ∧
  (∀ (l0 l1 l2 : Option Value) (q : Nat) (st : List Value) (σ : dS), den mX7_readStatement 161 [l0, l1, l2] (.ref q :: st) σ = (dget σ q 6 3).bind fun v => den mX7_readStatement 164 [l0, l1, l2] (v :: st) σ) ∧
  (∀ (l0 l1 : Option Value) (x : Int32) (st : List Value) (σ : dS), den mX7_readStatement 164 [l0, l1, some (.int x)] st σ = den mX7_readStatement 165 [l0, l1, some (.int x)] (.int x :: st) σ) ∧
  (∀ (l0 l1 l2 : Option Value) (st : List Value) (σ : dS), den mX7_readStatement 165 [l0, l1, l2] st σ = den mX7_readStatement 166 [l0, l1, l2] (.int (nI 2) :: st) σ) ∧
  (∀ (l0 l1 l2 : Option Value) (x y : Int32) (st : List Value) (σ : dS), den mX7_readStatement 166 [l0, l1, l2] (.int y :: .int x :: st) σ = den mX7_readStatement 167 [l0, l1, l2] (.int (x + y) :: st) σ) ∧
  (∀ (l1 l2 : Option Value) (x : Nat) (st : List Value) (σ : dS), den mX7_readStatement 167 [some (.ref x), l1, l2] st σ = den mX7_readStatement 168 [some (.ref x), l1, l2] (.ref x :: st) σ) ∧
  (∀ (l0 l1 l2 : Option Value) (st : List Value) (σ : dS), den mX7_readStatement 168 [l0, l1, l2] st σ = den mX7_readStatement 169 [l0, l1, l2] (.int (nI 0) :: st) σ) ∧
  (∀ (l0 l2 : Option Value) (x : Int32) (st : List Value) (σ : dS), den mX7_readStatement 169 [l0, some (.int x), l2] st σ = den mX7_readStatement 170 [l0, some (.int x), l2] (.int x :: st) σ) ∧
  (∀ (l0 l1 l2 : Option Value) (x : Int32) (st : List Value) (σ : dS), den mX7_readStatement 170 [l0, l1, l2] (.int x :: st) σ = if x = 0 then den mX7_readStatement 173 [l0, l1, l2] st σ else den mX7_readStatement 178 [l0, l1, l2] st σ) ∧
  (∀ (l0 l1 l2 : Option Value) (st : List Value) (σ : dS), den mX7_readStatement 173 [l0, l1, l2] st σ = den mX7_readStatement 175 [l0, l1, l2] (.int (nI 99) :: st) σ) ∧
  (∀ (l0 l1 l2 : Option Value) (st : List Value) (σ : dS), den mX7_readStatement 175 [l0, l1, l2] st σ = den mX7_readStatement 180 [l0, l1, l2] st σ) ∧
  (∀ (l0 l1 l2 : Option Value) (st : List Value) (σ : dS), den mX7_readStatement 178 [l0, l1, l2] st σ = den mX7_readStatement 180 [l0, l1, l2] (.int (nI 10) :: st) σ) ∧
  (∀ (l0 l1 l2 : Option Value) (a0 : Int32) (a1 : Int32) (b0 : Int32) (b1 : Nat) (q : Nat) (σ : dS), den mX7_readStatement 180 [l0, l1, l2] [.int a1, .int a0, .ref q, .int b0, .ref b1] σ = if disO σ q 6 = true then ((dcall mX7_readNumber [.ref q, .int a0, .int a1] σ).bind fun r => den mX7_readStatement 183 [l0, l1, l2] (r.1.toList ++ [.int b0, .ref b1]) r.2) else none) ∧
  (∀ (l0 l1 l2 : Option Value) (q : Nat) (i x : Int32) (st : List Value) (σ : dS), den mX7_readStatement 183 [l0, l1, l2] (.int x :: .int i :: .ref q :: st) σ = (dast σ q 0 i x).bind fun τ => den mX7_readStatement 184 [l0, l1, l2] st τ) ∧
  (∀ (l0 l1 l2 : Option Value) (st : List Value) (σ : dS), den mX7_readStatement 184 [l0, l1, l2] st σ = den mX7_readStatement 211 [l0, l1, l2] st σ) ∧
  (∀ (l1 l2 : Option Value) (x : Nat) (st : List Value) (σ : dS), den mX7_readStatement 187 [some (.ref x), l1, l2] st σ = den mX7_readStatement 188 [some (.ref x), l1, l2] (.ref x :: st) σ) ∧
  (∀ (l0 l1 l2 : Option Value) (q : Nat) (st : List Value) (σ : dS), den mX7_readStatement 188 [l0, l1, l2] (.ref q :: st) σ = (dget σ q 6 3).bind fun v => den mX7_readStatement 191 [l0, l1, l2] (v :: st) σ) ∧
  (∀ (l0 l1 : Option Value) (x : Int32) (st : List Value) (σ : dS), den mX7_readStatement 191 [l0, l1, some (.int x)] st σ = den mX7_readStatement 192 [l0, l1, some (.int x)] (.int x :: st) σ) ∧
  (∀ (l0 l1 l2 : Option Value) (st : List Value) (σ : dS), den mX7_readStatement 192 [l0, l1, l2] st σ = den mX7_readStatement 193 [l0, l1, l2] (.int (nI 2) :: st) σ) ∧
  (∀ (l0 l1 l2 : Option Value) (x y : Int32) (st : List Value) (σ : dS), den mX7_readStatement 193 [l0, l1, l2] (.int y :: .int x :: st) σ = den mX7_readStatement 194 [l0, l1, l2] (.int (x + y) :: st) σ) ∧
  (∀ (l1 l2 : Option Value) (x : Nat) (st : List Value) (σ : dS), den mX7_readStatement 194 [some (.ref x), l1, l2] st σ = den mX7_readStatement 195 [some (.ref x), l1, l2] (.ref x :: st) σ) ∧
  (∀ (l0 l1 l2 : Option Value) (b0 : Int32) (b1 : Nat) (q : Nat) (σ : dS), den mX7_readStatement 195 [l0, l1, l2] [.ref q, .int b0, .ref b1] σ = if disO σ q 6 = true then ((dcall mX7_readVariable [.ref q] σ).bind fun r => den mX7_readStatement 198 [l0, l1, l2] (r.1.toList ++ [.int b0, .ref b1]) r.2) else none) ∧
  (∀ (l0 l1 l2 : Option Value) (q : Nat) (i x : Int32) (st : List Value) (σ : dS), den mX7_readStatement 198 [l0, l1, l2] (.int x :: .int i :: .ref q :: st) σ = (dast σ q 0 i x).bind fun τ => den mX7_readStatement 199 [l0, l1, l2] st τ) ∧
  (∀ (l1 l2 : Option Value) (x : Nat) (st : List Value) (σ : dS), den mX7_readStatement 199 [some (.ref x), l1, l2] st σ = den mX7_readStatement 200 [some (.ref x), l1, l2] (.ref x :: st) σ) :=
  ⟨fun l0 l1 l2 q i x st σ => dn_iastore eX7_readStatement dX7_readStatement_134,
  fun l1 l2 x st σ => dn_aload_n eX7_readStatement dX7_readStatement_135 rfl,
  fun l0 l1 l2 q σ => rX7_readStatement_136 l0 l1 l2 q σ,
  fun l1 l2 x st σ => dn_aload_n eX7_readStatement dX7_readStatement_139 rfl,
  fun l0 l1 l2 q st σ => dn_getfield (f := (6, 3, 774)) eX7_readStatement dX7_readStatement_140 (by decide +kernel),
  fun l0 l1 x st σ => dn_iload_n eX7_readStatement dX7_readStatement_143 rfl,
  fun l0 l1 l2 st σ => dn_iconst eX7_readStatement dX7_readStatement_144 kc_iconst_1,
  fun l0 l1 l2 x y st σ => dn_iadd eX7_readStatement dX7_readStatement_145,
  fun l1 l2 x st σ => dn_aload_n eX7_readStatement dX7_readStatement_146 rfl,
  fun l0 l1 l2 b0 b1 q σ => rX7_readStatement_147 l0 l1 l2 b0 b1 q σ,
  fun l0 l1 l2 q i x st σ => dn_iastore eX7_readStatement dX7_readStatement_150,
  fun l0 l2 x st σ => dn_iload_n eX7_readStatement dX7_readStatement_151 rfl,
  fun l0 l1 l2 x st σ => dn_if_eq eX7_readStatement dX7_readStatement_152 (by decide),
  fun l0 l2 x st σ => dn_iload_n eX7_readStatement dX7_readStatement_155 rfl,
  fun l0 l1 l2 st σ => dn_iconst eX7_readStatement dX7_readStatement_156 kc_iconst_5,
  fun l0 l1 l2 x y st σ => dn_icmp_ne eX7_readStatement dX7_readStatement_157 (by decide),
  fun l1 l2 x st σ => dn_aload_n eX7_readStatement dX7_readStatement_160 rfl,
  fun l0 l1 l2 q st σ => dn_getfield (f := (6, 3, 774)) eX7_readStatement dX7_readStatement_161 (by decide +kernel),
  fun l0 l1 x st σ => dn_iload_n eX7_readStatement dX7_readStatement_164 rfl,
  fun l0 l1 l2 st σ => dn_iconst eX7_readStatement dX7_readStatement_165 kc_iconst_2,
  fun l0 l1 l2 x y st σ => dn_iadd eX7_readStatement dX7_readStatement_166,
  fun l1 l2 x st σ => dn_aload_n eX7_readStatement dX7_readStatement_167 rfl,
  fun l0 l1 l2 st σ => dn_iconst eX7_readStatement dX7_readStatement_168 kc_iconst_0,
  fun l0 l2 x st σ => dn_iload_n eX7_readStatement dX7_readStatement_169 rfl,
  fun l0 l1 l2 x st σ => dn_if_ne eX7_readStatement dX7_readStatement_170 (by decide),
  fun l0 l1 l2 st σ => dn_bipush eX7_readStatement dX7_readStatement_173 kc_bipush_99,
  fun l0 l1 l2 st σ => dn_goto eX7_readStatement dX7_readStatement_175 (by decide),
  fun l0 l1 l2 st σ => dn_bipush eX7_readStatement dX7_readStatement_178 kc_bipush_10,
  fun l0 l1 l2 a0 a1 b0 b1 q σ => rX7_readStatement_180 l0 l1 l2 a0 a1 b0 b1 q σ,
  fun l0 l1 l2 q i x st σ => dn_iastore eX7_readStatement dX7_readStatement_183,
  fun l0 l1 l2 st σ => dn_goto eX7_readStatement dX7_readStatement_184 (by decide),
  fun l1 l2 x st σ => dn_aload_n eX7_readStatement dX7_readStatement_187 rfl,
  fun l0 l1 l2 q st σ => dn_getfield (f := (6, 3, 774)) eX7_readStatement dX7_readStatement_188 (by decide +kernel),
  fun l0 l1 x st σ => dn_iload_n eX7_readStatement dX7_readStatement_191 rfl,
  fun l0 l1 l2 st σ => dn_iconst eX7_readStatement dX7_readStatement_192 kc_iconst_2,
  fun l0 l1 l2 x y st σ => dn_iadd eX7_readStatement dX7_readStatement_193,
  fun l1 l2 x st σ => dn_aload_n eX7_readStatement dX7_readStatement_194 rfl,
  fun l0 l1 l2 b0 b1 q σ => rX7_readStatement_195 l0 l1 l2 b0 b1 q σ,
  fun l0 l1 l2 q i x st σ => dn_iastore eX7_readStatement dX7_readStatement_198,
  fun l1 l2 x st σ => dn_aload_n eX7_readStatement dX7_readStatement_199 rfl⟩
set_option maxRecDepth 20000 in
theorem SX7_readStatement_3 : (∀ (l0 l1 l2 : Option Value) (q : Nat) (st : List Value) (σ : dS), den mX7_readStatement 200 [l0, l1, l2] (.ref q :: st) σ = (dget σ q 6 3).bind fun v => den mX7_readStatement 203 [l0, l1, l2] (v :: st) σ) ∧
  (∀ (l0 l1 : Option Value) (x : Int32) (st : List Value) (σ : dS), den mX7_readStatement 203 [l0, l1, some (.int x)] st σ = den mX7_readStatement 204 [l0, l1, some (.int x)] (.int x :: st) σ) ∧
  (∀ (l0 l1 l2 : Option Value) (st : List Value) (σ : dS), den mX7_readStatement 204 [l0, l1, l2] st σ = den mX7_readStatement 205 [l0, l1, l2] (.int (nI 3) :: st) σ) ∧
  (∀ (l0 l1 l2 : Option Value) (x y : Int32) (st : List Value) (σ : dS), den mX7_readStatement 205 [l0, l1, l2] (.int y :: .int x :: st) σ = den mX7_readStatement 206 [l0, l1, l2] (.int (x + y) :: st) σ) ∧
  (∀ (l1 l2 : Option Value) (x : Nat) (st : List Value) (σ : dS), den mX7_readStatement 206 [some (.ref x), l1, l2] st σ = den mX7_readStatement 207 [some (.ref x), l1, l2] (.ref x :: st) σ) ∧
  (∀ (l0 l1 l2 : Option Value) (b0 : Int32) (b1 : Nat) (q : Nat) (σ : dS), den mX7_readStatement 207 [l0, l1, l2] [.ref q, .int b0, .ref b1] σ = if disO σ q 6 = true then ((dcall mX7_readVariable [.ref q] σ).bind fun r => den mX7_readStatement 210 [l0, l1, l2] (r.1.toList ++ [.int b0, .ref b1]) r.2) else none) ∧
  (∀ (l0 l1 l2 : Option Value) (q : Nat) (i x : Int32) (st : List Value) (σ : dS), den mX7_readStatement 210 [l0, l1, l2] (.int x :: .int i :: .ref q :: st) σ = (dast σ q 0 i x).bind fun τ => den mX7_readStatement 211 [l0, l1, l2] st τ) ∧
  (∀ (l1 l2 : Option Value) (x : Nat) (st : List Value) (σ : dS), den mX7_readStatement 211 [some (.ref x), l1, l2] st σ = den mX7_readStatement 212 [some (.ref x), l1, l2] (.ref x :: st) σ) ∧
  (∀ (l0 l2 : Option Value) (x : Int32) (st : List Value) (σ : dS), den mX7_readStatement 212 [l0, some (.int x), l2] st σ = den mX7_readStatement 213 [l0, some (.int x), l2] (.int x :: st) σ) ∧
  (∀ (l0 l1 l2 : Option Value) (st : List Value) (σ : dS), den mX7_readStatement 213 [l0, l1, l2] st σ = den mX7_readStatement 214 [l0, l1, l2] (.int (nI 5) :: st) σ) ∧
  (∀ (l0 l1 l2 : Option Value) (x y : Int32) (st : List Value) (σ : dS), den mX7_readStatement 214 [l0, l1, l2] (.int y :: .int x :: st) σ = if x = y then den mX7_readStatement 217 [l0, l1, l2] st σ else den mX7_readStatement 221 [l0, l1, l2] st σ) ∧
  (∀ (l0 l1 l2 : Option Value) (st : List Value) (σ : dS), den mX7_readStatement 217 [l0, l1, l2] st σ = den mX7_readStatement 218 [l0, l1, l2] (.int (nI 4) :: st) σ) ∧
  (∀ (l0 l1 l2 : Option Value) (st : List Value) (σ : dS), den mX7_readStatement 218 [l0, l1, l2] st σ = den mX7_readStatement 222 [l0, l1, l2] st σ) ∧
  (∀ (l0 l1 l2 : Option Value) (st : List Value) (σ : dS), den mX7_readStatement 221 [l0, l1, l2] st σ = den mX7_readStatement 222 [l0, l1, l2] (.int (nI 3) :: st) σ) ∧
  (∀ (l0 l1 l2 : Option Value) (a0 : Int32) (q : Nat) (σ : dS), den mX7_readStatement 222 [l0, l1, l2] [.int a0, .ref q] σ = if disO σ q 6 = true then ((dcall mX7_takes [.ref q, .int a0] σ).bind fun r => den mX7_readStatement 225 [l0, l1, l2] (r.1.toList ++ []) r.2) else none) ∧
  (∀ (l1 l2 : Option Value) (x : Nat) (st : List Value) (σ : dS), den mX7_readStatement 225 [some (.ref x), l1, l2] st σ = den mX7_readStatement 226 [some (.ref x), l1, l2] (.ref x :: st) σ) ∧
  (∀ (l0 l1 l2 : Option Value) (q : Nat) (st : List Value) (σ : dS), den mX7_readStatement 226 [l0, l1, l2] (.ref q :: st) σ = (dget σ q 6 10).bind fun v => den mX7_readStatement 229 [l0, l1, l2] (v :: st) σ) ∧
  (∀ (l0 l1 l2 : Option Value) (x : Int32) (st : List Value) (σ : dS), den mX7_readStatement 229 [l0, l1, l2] (.int x :: st) σ = if x = 0 then den mX7_readStatement 232 [l0, l1, l2] st σ else den mX7_readStatement 274 [l0, l1, l2] st σ) ∧
  (∀ (l0 l2 : Option Value) (x : Int32) (st : List Value) (σ : dS), den mX7_readStatement 232 [l0, some (.int x), l2] st σ = den mX7_readStatement 233 [l0, some (.int x), l2] (.int x :: st) σ) ∧
  (∀ (l0 l1 l2 : Option Value) (st : List Value) (σ : dS), den mX7_readStatement 233 [l0, l1, l2] st σ = den mX7_readStatement 234 [l0, l1, l2] (.int (nI 5) :: st) σ) ∧
  (∀ (l0 l1 l2 : Option Value) (x y : Int32) (st : List Value) (σ : dS), den mX7_readStatement 234 [l0, l1, l2] (.int y :: .int x :: st) σ = if x = y then den mX7_readStatement 237 [l0, l1, l2] st σ else den mX7_readStatement 274 [l0, l1, l2] st σ) ∧
  (∀ (l1 l2 : Option Value) (x : Nat) (st : List Value) (σ : dS), den mX7_readStatement 237 [some (.ref x), l1, l2] st σ = den mX7_readStatement 238 [some (.ref x), l1, l2] (.ref x :: st) σ) ∧
  (∀ (l0 l1 l2 : Option Value) (q : Nat) (st : List Value) (σ : dS), den mX7_readStatement 238 [l0, l1, l2] (.ref q :: st) σ = (dget σ q 6 12).bind fun v => den mX7_readStatement 241 [l0, l1, l2] (v :: st) σ) ∧
  (∀ (l1 l2 : Option Value) (x : Nat) (st : List Value) (σ : dS), den mX7_readStatement 241 [some (.ref x), l1, l2] st σ = den mX7_readStatement 242 [some (.ref x), l1, l2] (.ref x :: st) σ) ∧
  (∀ (l0 l1 l2 : Option Value) (q : Nat) (st : List Value) (σ : dS), den mX7_readStatement 242 [l0, l1, l2] (.ref q :: st) σ = (dget σ q 6 13).bind fun v => den mX7_readStatement 245 [l0, l1, l2] (v :: st) σ) ∧
  (∀ (l0 l1 l2 : Option Value) (st : List Value) (σ : dS), den mX7_readStatement 245 [l0, l1, l2] st σ = den mX7_readStatement 246 [l0, l1, l2] (.int (nI 2) :: st) σ) ∧
  (∀ (l1 l2 : Option Value) (x : Nat) (st : List Value) (σ : dS), den mX7_readStatement 246 [some (.ref x), l1, l2] st σ = den mX7_readStatement 247 [some (.ref x), l1, l2] (.ref x :: st) σ) ∧
  (∀ (l0 l1 l2 : Option Value) (q : Nat) (st : List Value) (σ : dS), den mX7_readStatement 247 [l0, l1, l2] (.ref q :: st) σ = (dget σ q 6 14).bind fun v => den mX7_readStatement 250 [l0, l1, l2] (v :: st) σ) ∧
  (∀ (l0 l1 l2 : Option Value) (x y : Int32) (st : List Value) (σ : dS), den mX7_readStatement 250 [l0, l1, l2] (.int y :: .int x :: st) σ = den mX7_readStatement 251 [l0, l1, l2] (.int (x * y) :: st) σ) ∧
  (∀ (l0 l1 l2 : Option Value) (st : List Value) (σ : dS), den mX7_readStatement 251 [l0, l1, l2] st σ = den mX7_readStatement 252 [l0, l1, l2] (.int (nI 1) :: st) σ) ∧
  (∀ (l0 l1 l2 : Option Value) (x y : Int32) (st : List Value) (σ : dS), den mX7_readStatement 252 [l0, l1, l2] (.int y :: .int x :: st) σ = den mX7_readStatement 253 [l0, l1, l2] (.int (x + y) :: st) σ) ∧
  (∀ (l0 l1 l2 : Option Value) (q : Nat) (i x : Int32) (st : List Value) (σ : dS), den mX7_readStatement 253 [l0, l1, l2] (.int x :: .int i :: .ref q :: st) σ = (dast σ q 0 i x).bind fun τ => den mX7_readStatement 254 [l0, l1, l2] st τ) ∧
  (∀ (l1 l2 : Option Value) (x : Nat) (st : List Value) (σ : dS), den mX7_readStatement 254 [some (.ref x), l1, l2] st σ = den mX7_readStatement 255 [some (.ref x), l1, l2] (.ref x :: st) σ) ∧
  (∀ (l0 l1 l2 : Option Value) (x : Nat) (st : List Value) (σ : dS), den mX7_readStatement 255 [l0, l1, l2] (.ref x :: st) σ = den mX7_readStatement 256 [l0, l1, l2] (.ref x :: .ref x :: st) σ) ∧
  (∀ (l0 l1 l2 : Option Value) (q : Nat) (st : List Value) (σ : dS), den mX7_readStatement 256 [l0, l1, l2] (.ref q :: st) σ = (dget σ q 6 13).bind fun v => den mX7_readStatement 259 [l0, l1, l2] (v :: st) σ) ∧
  (∀ (l0 l1 l2 : Option Value) (st : List Value) (σ : dS), den mX7_readStatement 259 [l0, l1, l2] st σ = den mX7_readStatement 260 [l0, l1, l2] (.int (nI 1) :: st) σ) ∧
  (∀ (l0 l1 l2 : Option Value) (x y : Int32) (st : List Value) (σ : dS), den mX7_readStatement 260 [l0, l1, l2] (.int y :: .int x :: st) σ = den mX7_readStatement 261 [l0, l1, l2] (.int (x + y) :: st) σ) ∧
  (∀ (l0 l1 l2 : Option Value) (x : Int32) (q : Nat) (st : List Value) (σ : dS), den mX7_readStatement 261 [l0, l1, l2] (.int x :: .ref q :: st) σ = (dput σ q 6 13 (.int x)).bind fun τ => den mX7_readStatement 264 [l0, l1, l2] st τ) ∧
  (∀ (l1 l2 : Option Value) (x : Nat) (st : List Value) (σ : dS), den mX7_readStatement 264 [some (.ref x), l1, l2] st σ = den mX7_readStatement 265 [some (.ref x), l1, l2] (.ref x :: st) σ) ∧
  (∀ (l0 l1 l2 : Option Value) (x : Nat) (st : List Value) (σ : dS), den mX7_readStatement 265 [l0, l1, l2] (.ref x :: st) σ = den mX7_readStatement 266 [l0, l1, l2] (.ref x :: .ref x :: st) σ) :=
  ⟨fun l0 l1 l2 q st σ => dn_getfield (f := (6, 3, 774)) eX7_readStatement dX7_readStatement_200 (by decide +kernel),
  fun l0 l1 x st σ => dn_iload_n eX7_readStatement dX7_readStatement_203 rfl,
  fun l0 l1 l2 st σ => dn_iconst eX7_readStatement dX7_readStatement_204 kc_iconst_3,
  fun l0 l1 l2 x y st σ => dn_iadd eX7_readStatement dX7_readStatement_205,
  fun l1 l2 x st σ => dn_aload_n eX7_readStatement dX7_readStatement_206 rfl,
  fun l0 l1 l2 b0 b1 q σ => rX7_readStatement_207 l0 l1 l2 b0 b1 q σ,
  fun l0 l1 l2 q i x st σ => dn_iastore eX7_readStatement dX7_readStatement_210,
  fun l1 l2 x st σ => dn_aload_n eX7_readStatement dX7_readStatement_211 rfl,
  fun l0 l2 x st σ => dn_iload_n eX7_readStatement dX7_readStatement_212 rfl,
  fun l0 l1 l2 st σ => dn_iconst eX7_readStatement dX7_readStatement_213 kc_iconst_5,
  fun l0 l1 l2 x y st σ => dn_icmp_ne eX7_readStatement dX7_readStatement_214 (by decide),
  fun l0 l1 l2 st σ => dn_iconst eX7_readStatement dX7_readStatement_217 kc_iconst_4,
  fun l0 l1 l2 st σ => dn_goto eX7_readStatement dX7_readStatement_218 (by decide),
  fun l0 l1 l2 st σ => dn_iconst eX7_readStatement dX7_readStatement_221 kc_iconst_3,
  fun l0 l1 l2 a0 q σ => rX7_readStatement_222 l0 l1 l2 a0 q σ,
  fun l1 l2 x st σ => dn_aload_n eX7_readStatement dX7_readStatement_225 rfl,
  fun l0 l1 l2 q st σ => dn_getfield (f := (6, 10, 781)) eX7_readStatement dX7_readStatement_226 (by decide +kernel),
  fun l0 l1 l2 x st σ => dn_if_ne eX7_readStatement dX7_readStatement_229 (by decide),
  fun l0 l2 x st σ => dn_iload_n eX7_readStatement dX7_readStatement_232 rfl,
  fun l0 l1 l2 st σ => dn_iconst eX7_readStatement dX7_readStatement_233 kc_iconst_5,
  fun l0 l1 l2 x y st σ => dn_icmp_ne eX7_readStatement dX7_readStatement_234 (by decide),
  fun l1 l2 x st σ => dn_aload_n eX7_readStatement dX7_readStatement_237 rfl,
  fun l0 l1 l2 q st σ => dn_getfield (f := (6, 12, 783)) eX7_readStatement dX7_readStatement_238 (by decide +kernel),
  fun l1 l2 x st σ => dn_aload_n eX7_readStatement dX7_readStatement_241 rfl,
  fun l0 l1 l2 q st σ => dn_getfield (f := (6, 13, 784)) eX7_readStatement dX7_readStatement_242 (by decide +kernel),
  fun l0 l1 l2 st σ => dn_iconst eX7_readStatement dX7_readStatement_245 kc_iconst_2,
  fun l1 l2 x st σ => dn_aload_n eX7_readStatement dX7_readStatement_246 rfl,
  fun l0 l1 l2 q st σ => dn_getfield (f := (6, 14, 785)) eX7_readStatement dX7_readStatement_247 (by decide +kernel),
  fun l0 l1 l2 x y st σ => dn_imul eX7_readStatement dX7_readStatement_250,
  fun l0 l1 l2 st σ => dn_iconst eX7_readStatement dX7_readStatement_251 kc_iconst_1,
  fun l0 l1 l2 x y st σ => dn_iadd eX7_readStatement dX7_readStatement_252,
  fun l0 l1 l2 q i x st σ => dn_iastore eX7_readStatement dX7_readStatement_253,
  fun l1 l2 x st σ => dn_aload_n eX7_readStatement dX7_readStatement_254 rfl,
  fun l0 l1 l2 x st σ => dn_dup eX7_readStatement dX7_readStatement_255 rfl,
  fun l0 l1 l2 q st σ => dn_getfield (f := (6, 13, 784)) eX7_readStatement dX7_readStatement_256 (by decide +kernel),
  fun l0 l1 l2 st σ => dn_iconst eX7_readStatement dX7_readStatement_259 kc_iconst_1,
  fun l0 l1 l2 x y st σ => dn_iadd eX7_readStatement dX7_readStatement_260,
  fun l0 l1 l2 x q st σ => dn_putfield (f := (6, 13, 784)) (ty := .int) eX7_readStatement dX7_readStatement_261 (by decide +kernel) (by decide +kernel) rfl,
  fun l1 l2 x st σ => dn_aload_n eX7_readStatement dX7_readStatement_264 rfl,
  fun l0 l1 l2 x st σ => dn_dup eX7_readStatement dX7_readStatement_265 rfl⟩
set_option maxRecDepth 20000 in
theorem SX7_readStatement_4 : (∀ (l0 l1 l2 : Option Value) (q : Nat) (st : List Value) (σ : dS), den mX7_readStatement 266 [l0, l1, l2] (.ref q :: st) σ = (dget σ q 6 14).bind fun v => den mX7_readStatement 269 [l0, l1, l2] (v :: st) σ) ∧
  (∀ (l0 l1 l2 : Option Value) (st : List Value) (σ : dS), den mX7_readStatement 269 [l0, l1, l2] st σ = den mX7_readStatement 270 [l0, l1, l2] (.int (nI 1) :: st) σ) ∧
  (∀ (l0 l1 l2 : Option Value) (x y : Int32) (st : List Value) (σ : dS), den mX7_readStatement 270 [l0, l1, l2] (.int y :: .int x :: st) σ = den mX7_readStatement 271 [l0, l1, l2] (.int (x + y) :: st) σ) ∧
  (∀ (l0 l1 l2 : Option Value) (x : Int32) (q : Nat) (st : List Value) (σ : dS), den mX7_readStatement 271 [l0, l1, l2] (.int x :: .ref q :: st) σ = (dput σ q 6 14 (.int x)).bind fun τ => den mX7_readStatement 274 [l0, l1, l2] st τ) ∧
  (∀ (l0 l1 l2 : Option Value) (σ : dS), den mX7_readStatement 274 [l0, l1, l2] [] σ = some (none, σ)) :=
  ⟨fun l0 l1 l2 q st σ => dn_getfield (f := (6, 14, 785)) eX7_readStatement dX7_readStatement_266 (by decide +kernel),
  fun l0 l1 l2 st σ => dn_iconst eX7_readStatement dX7_readStatement_269 kc_iconst_1,
  fun l0 l1 l2 x y st σ => dn_iadd eX7_readStatement dX7_readStatement_270,
  fun l0 l1 l2 x q st σ => dn_putfield (f := (6, 14, 785)) (ty := .int) eX7_readStatement dX7_readStatement_271 (by decide +kernel) (by decide +kernel) rfl,
  fun l0 l1 l2 σ => dn_return eX7_readStatement dX7_readStatement_274 rfl⟩
theorem CX7_sideEnds (a0 : Nat) (σ : dS) : dcall mX7_sideEnds [.ref a0] σ = den mX7_sideEnds 0 [some (.ref a0)] [] σ := dcall_den (by decide) rfl
theorem rX7_sideEnds_1 (l0 : Option Value) (q : Nat) (σ : dS) : den mX7_sideEnds 1 [l0] [.ref q] σ = if disO σ q 6 = true then ((dcall mX7_reads [.ref q] σ).bind fun r => den mX7_sideEnds 4 [l0] (r.1.toList ++ []) r.2) else none := by
  by_cases h : disO σ q 6 = true
  · rw [if_pos h]; exact dn_callV (e := (0, 112, 890)) (as := []) (rest := []) eX7_sideEnds dX7_sideEnds_1 (by decide +kernel) rfl (by decide +kernel) rfl (dcat_le rfl) (dlen_le rfl) rfl h
  · rw [if_neg h]; exact den_noV (e := (0, 112, 890)) (as := []) (rest := []) eX7_sideEnds dX7_sideEnds_1 (by decide +kernel) rfl rfl rfl h
theorem rX7_sideEnds_23 (l0 : Option Value) (a0 : Int32) (q : Nat) (σ : dS) : den mX7_sideEnds 23 [l0] [.int a0, .ref q] σ = if disO σ q 6 = true then ((dcall mX7_takes [.ref q, .int a0] σ).bind fun r => den mX7_sideEnds 26 [l0] (r.1.toList ++ []) r.2) else none := by
  by_cases h : disO σ q 6 = true
  · rw [if_pos h]; exact dn_callV (e := (0, 115, 910)) (as := [.int a0]) (rest := []) eX7_sideEnds dX7_sideEnds_23 (by decide +kernel) rfl (by decide +kernel) rfl (dcat_le rfl) (dlen_le rfl) rfl h
  · rw [if_neg h]; exact den_noV (e := (0, 115, 910)) (as := [.int a0]) (rest := []) eX7_sideEnds dX7_sideEnds_23 (by decide +kernel) rfl rfl rfl h
set_option maxRecDepth 20000 in
theorem SX7_sideEnds : (∀ (x : Nat) (st : List Value) (σ : dS), den mX7_sideEnds 0 [some (.ref x)] st σ = den mX7_sideEnds 1 [some (.ref x)] (.ref x :: st) σ) ∧
  (∀ (l0 : Option Value) (q : Nat) (σ : dS), den mX7_sideEnds 1 [l0] [.ref q] σ = if disO σ q 6 = true then ((dcall mX7_reads [.ref q] σ).bind fun r => den mX7_sideEnds 4 [l0] (r.1.toList ++ []) r.2) else none) ∧
  (∀ (x : Nat) (st : List Value) (σ : dS), den mX7_sideEnds 4 [some (.ref x)] st σ = den mX7_sideEnds 5 [some (.ref x)] (.ref x :: st) σ) ∧
  (∀ (l0 : Option Value) (q : Nat) (st : List Value) (σ : dS), den mX7_sideEnds 5 [l0] (.ref q :: st) σ = (dget σ q 6 12).bind fun v => den mX7_sideEnds 8 [l0] (v :: st) σ) ∧
  (∀ (x : Nat) (st : List Value) (σ : dS), den mX7_sideEnds 8 [some (.ref x)] st σ = den mX7_sideEnds 9 [some (.ref x)] (.ref x :: st) σ) ∧
  (∀ (l0 : Option Value) (q : Nat) (st : List Value) (σ : dS), den mX7_sideEnds 9 [l0] (.ref q :: st) σ = (dget σ q 6 13).bind fun v => den mX7_sideEnds 12 [l0] (v :: st) σ) ∧
  (∀ (l0 : Option Value) (st : List Value) (σ : dS), den mX7_sideEnds 12 [l0] st σ = den mX7_sideEnds 13 [l0] (.int (nI 1) :: st) σ) ∧
  (∀ (l0 : Option Value) (x y : Int32) (st : List Value) (σ : dS), den mX7_sideEnds 13 [l0] (.int y :: .int x :: st) σ = den mX7_sideEnds 14 [l0] (.int (x - y) :: st) σ) ∧
  (∀ (l0 : Option Value) (q : Nat) (i : Int32) (st : List Value) (σ : dS), den mX7_sideEnds 14 [l0] (.int i :: .ref q :: st) σ = if q ≤ dN then (dald σ q 0 i).bind (fun v => den mX7_sideEnds 15 [l0] (.int v :: st) σ) else none) ∧
  (∀ (l0 : Option Value) (st : List Value) (σ : dS), den mX7_sideEnds 15 [l0] st σ = den mX7_sideEnds 16 [l0] (.int (nI 2) :: st) σ) ∧
  (∀ (l0 : Option Value) (x y : Int32) (st : List Value) (σ : dS), den mX7_sideEnds 16 [l0] (.int y :: .int x :: st) σ = if y = 0 then none else den mX7_sideEnds 17 [l0] (.int (x - x / y * y) :: st) σ) ∧
  (∀ (l0 : Option Value) (st : List Value) (σ : dS), den mX7_sideEnds 17 [l0] st σ = den mX7_sideEnds 18 [l0] (.int (nI 1) :: st) σ) ∧
  (∀ (l0 : Option Value) (x y : Int32) (st : List Value) (σ : dS), den mX7_sideEnds 18 [l0] (.int y :: .int x :: st) σ = if x = y then den mX7_sideEnds 21 [l0] st σ else den mX7_sideEnds 44 [l0] st σ) ∧
  (∀ (x : Nat) (st : List Value) (σ : dS), den mX7_sideEnds 21 [some (.ref x)] st σ = den mX7_sideEnds 22 [some (.ref x)] (.ref x :: st) σ) ∧
  (∀ (l0 : Option Value) (st : List Value) (σ : dS), den mX7_sideEnds 22 [l0] st σ = den mX7_sideEnds 23 [l0] (.int (nI 4) :: st) σ) ∧
  (∀ (l0 : Option Value) (a0 : Int32) (q : Nat) (σ : dS), den mX7_sideEnds 23 [l0] [.int a0, .ref q] σ = if disO σ q 6 = true then ((dcall mX7_takes [.ref q, .int a0] σ).bind fun r => den mX7_sideEnds 26 [l0] (r.1.toList ++ []) r.2) else none) ∧
  (∀ (x : Nat) (st : List Value) (σ : dS), den mX7_sideEnds 26 [some (.ref x)] st σ = den mX7_sideEnds 27 [some (.ref x)] (.ref x :: st) σ) ∧
  (∀ (l0 : Option Value) (q : Nat) (st : List Value) (σ : dS), den mX7_sideEnds 27 [l0] (.ref q :: st) σ = (dget σ q 6 12).bind fun v => den mX7_sideEnds 30 [l0] (v :: st) σ) ∧
  (∀ (x : Nat) (st : List Value) (σ : dS), den mX7_sideEnds 30 [some (.ref x)] st σ = den mX7_sideEnds 31 [some (.ref x)] (.ref x :: st) σ) ∧
  (∀ (l0 : Option Value) (q : Nat) (st : List Value) (σ : dS), den mX7_sideEnds 31 [l0] (.ref q :: st) σ = (dget σ q 6 13).bind fun v => den mX7_sideEnds 34 [l0] (v :: st) σ) ∧
  (∀ (l0 : Option Value) (st : List Value) (σ : dS), den mX7_sideEnds 34 [l0] st σ = den mX7_sideEnds 35 [l0] (.int (nI 1) :: st) σ) ∧
  (∀ (l0 : Option Value) (x y : Int32) (st : List Value) (σ : dS), den mX7_sideEnds 35 [l0] (.int y :: .int x :: st) σ = den mX7_sideEnds 36 [l0] (.int (x - y) :: st) σ) ∧
  (∀ (l0 : Option Value) (x : Int32) (y : Nat) (st : List Value) (σ : dS), den mX7_sideEnds 36 [l0] (.int x :: .ref y :: st) σ = den mX7_sideEnds 37 [l0] (.int x :: .ref y :: .int x :: .ref y :: st) σ) ∧
  (∀ (l0 : Option Value) (q : Nat) (i : Int32) (st : List Value) (σ : dS), den mX7_sideEnds 37 [l0] (.int i :: .ref q :: st) σ = if q ≤ dN then (dald σ q 0 i).bind (fun v => den mX7_sideEnds 38 [l0] (.int v :: st) σ) else none) ∧
  (∀ (l0 : Option Value) (st : List Value) (σ : dS), den mX7_sideEnds 38 [l0] st σ = den mX7_sideEnds 39 [l0] (.int (nI 1) :: st) σ) ∧
  (∀ (l0 : Option Value) (x y : Int32) (st : List Value) (σ : dS), den mX7_sideEnds 39 [l0] (.int y :: .int x :: st) σ = den mX7_sideEnds 40 [l0] (.int (x + y) :: st) σ) ∧
  (∀ (l0 : Option Value) (q : Nat) (i x : Int32) (st : List Value) (σ : dS), den mX7_sideEnds 40 [l0] (.int x :: .int i :: .ref q :: st) σ = (dast σ q 0 i x).bind fun τ => den mX7_sideEnds 41 [l0] st τ) ∧
  (∀ (l0 : Option Value) (st : List Value) (σ : dS), den mX7_sideEnds 41 [l0] st σ = den mX7_sideEnds 54 [l0] st σ) ∧
  (∀ (x : Nat) (st : List Value) (σ : dS), den mX7_sideEnds 44 [some (.ref x)] st σ = den mX7_sideEnds 45 [some (.ref x)] (.ref x :: st) σ) ∧
  (∀ (l0 : Option Value) (x : Nat) (st : List Value) (σ : dS), den mX7_sideEnds 45 [l0] (.ref x :: st) σ = den mX7_sideEnds 46 [l0] (.ref x :: .ref x :: st) σ) ∧
  (∀ (l0 : Option Value) (q : Nat) (st : List Value) (σ : dS), den mX7_sideEnds 46 [l0] (.ref q :: st) σ = (dget σ q 6 13).bind fun v => den mX7_sideEnds 49 [l0] (v :: st) σ) ∧
  (∀ (l0 : Option Value) (st : List Value) (σ : dS), den mX7_sideEnds 49 [l0] st σ = den mX7_sideEnds 50 [l0] (.int (nI 1) :: st) σ) ∧
  (∀ (l0 : Option Value) (x y : Int32) (st : List Value) (σ : dS), den mX7_sideEnds 50 [l0] (.int y :: .int x :: st) σ = den mX7_sideEnds 51 [l0] (.int (x - y) :: st) σ) ∧
  (∀ (l0 : Option Value) (x : Int32) (q : Nat) (st : List Value) (σ : dS), den mX7_sideEnds 51 [l0] (.int x :: .ref q :: st) σ = (dput σ q 6 13 (.int x)).bind fun τ => den mX7_sideEnds 54 [l0] st τ) ∧
  (∀ (l0 : Option Value) (σ : dS), den mX7_sideEnds 54 [l0] [] σ = some (none, σ)) :=
  ⟨fun x st σ => dn_aload_n eX7_sideEnds dX7_sideEnds_0 rfl,
  fun l0 q σ => rX7_sideEnds_1 l0 q σ,
  fun x st σ => dn_aload_n eX7_sideEnds dX7_sideEnds_4 rfl,
  fun l0 q st σ => dn_getfield (f := (6, 12, 783)) eX7_sideEnds dX7_sideEnds_5 (by decide +kernel),
  fun x st σ => dn_aload_n eX7_sideEnds dX7_sideEnds_8 rfl,
  fun l0 q st σ => dn_getfield (f := (6, 13, 784)) eX7_sideEnds dX7_sideEnds_9 (by decide +kernel),
  fun l0 st σ => dn_iconst eX7_sideEnds dX7_sideEnds_12 kc_iconst_1,
  fun l0 x y st σ => dn_isub eX7_sideEnds dX7_sideEnds_13,
  fun l0 q i st σ => dn_iaload eX7_sideEnds dX7_sideEnds_14,
  fun l0 st σ => dn_iconst eX7_sideEnds dX7_sideEnds_15 kc_iconst_2,
  fun l0 x y st σ => dn_irem eX7_sideEnds dX7_sideEnds_16,
  fun l0 st σ => dn_iconst eX7_sideEnds dX7_sideEnds_17 kc_iconst_1,
  fun l0 x y st σ => dn_icmp_ne eX7_sideEnds dX7_sideEnds_18 (by decide),
  fun x st σ => dn_aload_n eX7_sideEnds dX7_sideEnds_21 rfl,
  fun l0 st σ => dn_iconst eX7_sideEnds dX7_sideEnds_22 kc_iconst_4,
  fun l0 a0 q σ => rX7_sideEnds_23 l0 a0 q σ,
  fun x st σ => dn_aload_n eX7_sideEnds dX7_sideEnds_26 rfl,
  fun l0 q st σ => dn_getfield (f := (6, 12, 783)) eX7_sideEnds dX7_sideEnds_27 (by decide +kernel),
  fun x st σ => dn_aload_n eX7_sideEnds dX7_sideEnds_30 rfl,
  fun l0 q st σ => dn_getfield (f := (6, 13, 784)) eX7_sideEnds dX7_sideEnds_31 (by decide +kernel),
  fun l0 st σ => dn_iconst eX7_sideEnds dX7_sideEnds_34 kc_iconst_1,
  fun l0 x y st σ => dn_isub eX7_sideEnds dX7_sideEnds_35,
  fun l0 x y st σ => dn_dup2 eX7_sideEnds dX7_sideEnds_36 rfl rfl,
  fun l0 q i st σ => dn_iaload eX7_sideEnds dX7_sideEnds_37,
  fun l0 st σ => dn_iconst eX7_sideEnds dX7_sideEnds_38 kc_iconst_1,
  fun l0 x y st σ => dn_iadd eX7_sideEnds dX7_sideEnds_39,
  fun l0 q i x st σ => dn_iastore eX7_sideEnds dX7_sideEnds_40,
  fun l0 st σ => dn_goto eX7_sideEnds dX7_sideEnds_41 (by decide),
  fun x st σ => dn_aload_n eX7_sideEnds dX7_sideEnds_44 rfl,
  fun l0 x st σ => dn_dup eX7_sideEnds dX7_sideEnds_45 rfl,
  fun l0 q st σ => dn_getfield (f := (6, 13, 784)) eX7_sideEnds dX7_sideEnds_46 (by decide +kernel),
  fun l0 st σ => dn_iconst eX7_sideEnds dX7_sideEnds_49 kc_iconst_1,
  fun l0 x y st σ => dn_isub eX7_sideEnds dX7_sideEnds_50,
  fun l0 x q st σ => dn_putfield (f := (6, 13, 784)) (ty := .int) eX7_sideEnds dX7_sideEnds_51 (by decide +kernel) (by decide +kernel) rfl,
  fun l0 σ => dn_return eX7_sideEnds dX7_sideEnds_54 rfl⟩
theorem CX7_text (a0 : Nat) (σ : dS) : dcall mX7_text [.ref a0] σ = den mX7_text 0 [some (.ref a0)] [] σ := dcall_den (by decide) rfl
theorem rX7_text_21 (l0 : Option Value) (q : Nat) (σ : dS) : den mX7_text 21 [l0] [.ref q] σ = if disO σ q 6 = true then ((dcall mX7_firstDraft [.ref q] σ).bind fun r => den mX7_text 24 [l0] (r.1.toList ++ []) r.2) else none := by
  by_cases h : disO σ q 6 = true
  · rw [if_pos h]; exact dn_callV (e := (0, 104, 763)) (as := []) (rest := []) eX7_text dX7_text_21 (by decide +kernel) rfl (by decide +kernel) rfl (dcat_le rfl) (dlen_le rfl) rfl h
  · rw [if_neg h]; exact den_noV (e := (0, 104, 763)) (as := []) (rest := []) eX7_text dX7_text_21 (by decide +kernel) rfl rfl rfl h
theorem rX7_text_25 (l0 : Option Value) (q : Nat) (σ : dS) : den mX7_text 25 [l0] [.ref q] σ = if disO σ q 6 = true then ((dcall mX7_reads [.ref q] σ).bind fun r => den mX7_text 28 [l0] (r.1.toList ++ []) r.2) else none := by
  by_cases h : disO σ q 6 = true
  · rw [if_pos h]; exact dn_callV (e := (0, 112, 890)) (as := []) (rest := []) eX7_text dX7_text_25 (by decide +kernel) rfl (by decide +kernel) rfl (dcat_le rfl) (dlen_le rfl) rfl h
  · rw [if_neg h]; exact den_noV (e := (0, 112, 890)) (as := []) (rest := []) eX7_text dX7_text_25 (by decide +kernel) rfl rfl rfl h
theorem hX7_text_28 (x : Nat) (st : List Value) (σ : dS) : den mX7_text 28 [some (.ref x)] st σ = den mX7_text 29 [some (.ref x)] (.ref x :: st) σ := dn_aload_n eX7_text dX7_text_28 rfl
theorem rX7_text_65 (l0 : Option Value) (q : Nat) (σ : dS) : den mX7_text 65 [l0] [.ref q] σ = if disO σ q 6 = true then ((dcall mX7_sideEnds [.ref q] σ).bind fun r => den mX7_text 68 [l0] (r.1.toList ++ []) r.2) else none := by
  by_cases h : disO σ q 6 = true
  · rw [if_pos h]; exact dn_callV (e := (0, 117, 906)) (as := []) (rest := []) eX7_text dX7_text_65 (by decide +kernel) rfl (by decide +kernel) rfl (dcat_le rfl) (dlen_le rfl) rfl h
  · rw [if_neg h]; exact den_noV (e := (0, 117, 906)) (as := []) (rest := []) eX7_text dX7_text_65 (by decide +kernel) rfl rfl rfl h
theorem rX7_text_72 (l0 : Option Value) (q : Nat) (σ : dS) : den mX7_text 72 [l0] [.ref q] σ = if disO σ q 6 = true then ((dcall mX7_readStatement [.ref q] σ).bind fun r => den mX7_text 75 [l0] (r.1.toList ++ []) r.2) else none := by
  by_cases h : disO σ q 6 = true
  · rw [if_pos h]; exact dn_callV (e := (0, 116, 914)) (as := []) (rest := []) eX7_text dX7_text_72 (by decide +kernel) rfl (by decide +kernel) rfl (dcat_le rfl) (dlen_le rfl) rfl h
  · rw [if_neg h]; exact den_noV (e := (0, 116, 914)) (as := []) (rest := []) eX7_text dX7_text_72 (by decide +kernel) rfl rfl rfl h
theorem rX7_text_99 (l0 : Option Value) (q : Nat) (σ : dS) : den mX7_text 99 [l0] [.ref q] σ = if disO σ q 6 = true then ((dcall mX7_keepDraft [.ref q] σ).bind fun r => den mX7_text 102 [l0] (r.1.toList ++ []) r.2) else none := by
  by_cases h : disO σ q 6 = true
  · rw [if_pos h]; exact dn_callV (e := (0, 105, 767)) (as := []) (rest := []) eX7_text dX7_text_99 (by decide +kernel) rfl (by decide +kernel) rfl (dcat_le rfl) (dlen_le rfl) rfl h
  · rw [if_neg h]; exact den_noV (e := (0, 105, 767)) (as := []) (rest := []) eX7_text dX7_text_99 (by decide +kernel) rfl rfl rfl h
set_option maxRecDepth 20000 in
theorem SX7_text_0 : (∀ (x : Nat) (st : List Value) (σ : dS), den mX7_text 0 [some (.ref x)] st σ = den mX7_text 1 [some (.ref x)] (.ref x :: st) σ) ∧
  (∀ (l0 : Option Value) (st : List Value) (σ : dS), den mX7_text 1 [l0] st σ = den mX7_text 2 [l0] (.int (nI 0) :: st) σ) ∧
  (∀ (l0 : Option Value) (x : Int32) (q : Nat) (st : List Value) (σ : dS), den mX7_text 2 [l0] (.int x :: .ref q :: st) σ = (dput σ q 6 10 (.int x)).bind fun τ => den mX7_text 5 [l0] st τ) ∧
  (∀ (x : Nat) (st : List Value) (σ : dS), den mX7_text 5 [some (.ref x)] st σ = den mX7_text 6 [some (.ref x)] (.ref x :: st) σ) ∧
  (∀ (l0 : Option Value) (st : List Value) (σ : dS), den mX7_text 6 [l0] st σ = den mX7_text 7 [l0] (.int (nI 0) :: st) σ) ∧
  (∀ (l0 : Option Value) (x : Int32) (q : Nat) (st : List Value) (σ : dS), den mX7_text 7 [l0] (.int x :: .ref q :: st) σ = (dput σ q 6 6 (.int x)).bind fun τ => den mX7_text 10 [l0] st τ) ∧
  (∀ (x : Nat) (st : List Value) (σ : dS), den mX7_text 10 [some (.ref x)] st σ = den mX7_text 11 [some (.ref x)] (.ref x :: st) σ) ∧
  (∀ (l0 : Option Value) (st : List Value) (σ : dS), den mX7_text 11 [l0] st σ = den mX7_text 12 [l0] (.int (nI 0) :: st) σ) ∧
  (∀ (l0 : Option Value) (x : Int32) (q : Nat) (st : List Value) (σ : dS), den mX7_text 12 [l0] (.int x :: .ref q :: st) σ = (dput σ q 6 13 (.int x)).bind fun τ => den mX7_text 15 [l0] st τ) ∧
  (∀ (x : Nat) (st : List Value) (σ : dS), den mX7_text 15 [some (.ref x)] st σ = den mX7_text 16 [some (.ref x)] (.ref x :: st) σ) ∧
  (∀ (l0 : Option Value) (st : List Value) (σ : dS), den mX7_text 16 [l0] st σ = den mX7_text 17 [l0] (.int (nI 0) :: st) σ) ∧
  (∀ (l0 : Option Value) (x : Int32) (q : Nat) (st : List Value) (σ : dS), den mX7_text 17 [l0] (.int x :: .ref q :: st) σ = (dput σ q 6 14 (.int x)).bind fun τ => den mX7_text 20 [l0] st τ) ∧
  (∀ (x : Nat) (st : List Value) (σ : dS), den mX7_text 20 [some (.ref x)] st σ = den mX7_text 21 [some (.ref x)] (.ref x :: st) σ) ∧
  (∀ (l0 : Option Value) (q : Nat) (σ : dS), den mX7_text 21 [l0] [.ref q] σ = if disO σ q 6 = true then ((dcall mX7_firstDraft [.ref q] σ).bind fun r => den mX7_text 24 [l0] (r.1.toList ++ []) r.2) else none) ∧
  (∀ (x : Nat) (st : List Value) (σ : dS), den mX7_text 24 [some (.ref x)] st σ = den mX7_text 25 [some (.ref x)] (.ref x :: st) σ) ∧
  (∀ (l0 : Option Value) (q : Nat) (σ : dS), den mX7_text 25 [l0] [.ref q] σ = if disO σ q 6 = true then ((dcall mX7_reads [.ref q] σ).bind fun r => den mX7_text 28 [l0] (r.1.toList ++ []) r.2) else none) ∧
  (∀ (l0 : Option Value) (q : Nat) (st : List Value) (σ : dS), den mX7_text 29 [l0] (.ref q :: st) σ = (dget σ q 6 10).bind fun v => den mX7_text 32 [l0] (v :: st) σ) ∧
  (∀ (l0 : Option Value) (x : Int32) (st : List Value) (σ : dS), den mX7_text 32 [l0] (.int x :: st) σ = if x = 0 then den mX7_text 35 [l0] st σ else den mX7_text 78 [l0] st σ) ∧
  (∀ (x : Nat) (st : List Value) (σ : dS), den mX7_text 35 [some (.ref x)] st σ = den mX7_text 36 [some (.ref x)] (.ref x :: st) σ) ∧
  (∀ (l0 : Option Value) (q : Nat) (st : List Value) (σ : dS), den mX7_text 36 [l0] (.ref q :: st) σ = (dget σ q 6 8).bind fun v => den mX7_text 39 [l0] (v :: st) σ) ∧
  (∀ (l0 : Option Value) (x : Int32) (st : List Value) (σ : dS), den mX7_text 39 [l0] (.int x :: st) σ = if x = 0 then den mX7_text 42 [l0] st σ else den mX7_text 49 [l0] st σ) ∧
  (∀ (x : Nat) (st : List Value) (σ : dS), den mX7_text 42 [some (.ref x)] st σ = den mX7_text 43 [some (.ref x)] (.ref x :: st) σ) ∧
  (∀ (l0 : Option Value) (q : Nat) (st : List Value) (σ : dS), den mX7_text 43 [l0] (.ref q :: st) σ = (dget σ q 6 13).bind fun v => den mX7_text 46 [l0] (v :: st) σ) ∧
  (∀ (l0 : Option Value) (x : Int32) (st : List Value) (σ : dS), den mX7_text 46 [l0] (.int x :: st) σ = if 0 < x then den mX7_text 49 [l0] st σ else den mX7_text 78 [l0] st σ) ∧
  (∀ (x : Nat) (st : List Value) (σ : dS), den mX7_text 49 [some (.ref x)] st σ = den mX7_text 50 [some (.ref x)] (.ref x :: st) σ) ∧
  (∀ (l0 : Option Value) (q : Nat) (st : List Value) (σ : dS), den mX7_text 50 [l0] (.ref q :: st) σ = (dget σ q 6 8).bind fun v => den mX7_text 53 [l0] (v :: st) σ) ∧
  (∀ (l0 : Option Value) (st : List Value) (σ : dS), den mX7_text 53 [l0] st σ = den mX7_text 54 [l0] (.int (nI 5) :: st) σ) ∧
  (∀ (l0 : Option Value) (x y : Int32) (st : List Value) (σ : dS), den mX7_text 54 [l0] (.int y :: .int x :: st) σ = if x = y then den mX7_text 57 [l0] st σ else den mX7_text 71 [l0] st σ) ∧
  (∀ (x : Nat) (st : List Value) (σ : dS), den mX7_text 57 [some (.ref x)] st σ = den mX7_text 58 [some (.ref x)] (.ref x :: st) σ) ∧
  (∀ (l0 : Option Value) (q : Nat) (st : List Value) (σ : dS), den mX7_text 58 [l0] (.ref q :: st) σ = (dget σ q 6 13).bind fun v => den mX7_text 61 [l0] (v :: st) σ) ∧
  (∀ (l0 : Option Value) (x : Int32) (st : List Value) (σ : dS), den mX7_text 61 [l0] (.int x :: st) σ = if 0 < x then den mX7_text 64 [l0] st σ else den mX7_text 71 [l0] st σ) ∧
  (∀ (x : Nat) (st : List Value) (σ : dS), den mX7_text 64 [some (.ref x)] st σ = den mX7_text 65 [some (.ref x)] (.ref x :: st) σ) ∧
  (∀ (l0 : Option Value) (q : Nat) (σ : dS), den mX7_text 65 [l0] [.ref q] σ = if disO σ q 6 = true then ((dcall mX7_sideEnds [.ref q] σ).bind fun r => den mX7_text 68 [l0] (r.1.toList ++ []) r.2) else none) ∧
  (∀ (l0 : Option Value) (st : List Value) (σ : dS), den mX7_text 68 [l0] st σ = den mX7_text 28 [l0] st σ) ∧
  (∀ (x : Nat) (st : List Value) (σ : dS), den mX7_text 71 [some (.ref x)] st σ = den mX7_text 72 [some (.ref x)] (.ref x :: st) σ) ∧
  (∀ (l0 : Option Value) (q : Nat) (σ : dS), den mX7_text 72 [l0] [.ref q] σ = if disO σ q 6 = true then ((dcall mX7_readStatement [.ref q] σ).bind fun r => den mX7_text 75 [l0] (r.1.toList ++ []) r.2) else none) ∧
  (∀ (l0 : Option Value) (st : List Value) (σ : dS), den mX7_text 75 [l0] st σ = den mX7_text 28 [l0] st σ) ∧
  (∀ (x : Nat) (st : List Value) (σ : dS), den mX7_text 78 [some (.ref x)] st σ = den mX7_text 79 [some (.ref x)] (.ref x :: st) σ) ∧
  (∀ (l0 : Option Value) (st : List Value) (σ : dS), den mX7_text 79 [l0] st σ = den mX7_text 80 [l0] (.int (nI 0) :: st) σ) ∧
  (∀ (l0 : Option Value) (x : Int32) (q : Nat) (st : List Value) (σ : dS), den mX7_text 80 [l0] (.int x :: .ref q :: st) σ = (dput σ q 6 5 (.int x)).bind fun τ => den mX7_text 83 [l0] st τ) :=
  ⟨fun x st σ => dn_aload_n eX7_text dX7_text_0 rfl,
  fun l0 st σ => dn_iconst eX7_text dX7_text_1 kc_iconst_0,
  fun l0 x q st σ => dn_putfield (f := (6, 10, 781)) (ty := .int) eX7_text dX7_text_2 (by decide +kernel) (by decide +kernel) rfl,
  fun x st σ => dn_aload_n eX7_text dX7_text_5 rfl,
  fun l0 st σ => dn_iconst eX7_text dX7_text_6 kc_iconst_0,
  fun l0 x q st σ => dn_putfield (f := (6, 6, 777)) (ty := .int) eX7_text dX7_text_7 (by decide +kernel) (by decide +kernel) rfl,
  fun x st σ => dn_aload_n eX7_text dX7_text_10 rfl,
  fun l0 st σ => dn_iconst eX7_text dX7_text_11 kc_iconst_0,
  fun l0 x q st σ => dn_putfield (f := (6, 13, 784)) (ty := .int) eX7_text dX7_text_12 (by decide +kernel) (by decide +kernel) rfl,
  fun x st σ => dn_aload_n eX7_text dX7_text_15 rfl,
  fun l0 st σ => dn_iconst eX7_text dX7_text_16 kc_iconst_0,
  fun l0 x q st σ => dn_putfield (f := (6, 14, 785)) (ty := .int) eX7_text dX7_text_17 (by decide +kernel) (by decide +kernel) rfl,
  fun x st σ => dn_aload_n eX7_text dX7_text_20 rfl,
  fun l0 q σ => rX7_text_21 l0 q σ,
  fun x st σ => dn_aload_n eX7_text dX7_text_24 rfl,
  fun l0 q σ => rX7_text_25 l0 q σ,
  fun l0 q st σ => dn_getfield (f := (6, 10, 781)) eX7_text dX7_text_29 (by decide +kernel),
  fun l0 x st σ => dn_if_ne eX7_text dX7_text_32 (by decide),
  fun x st σ => dn_aload_n eX7_text dX7_text_35 rfl,
  fun l0 q st σ => dn_getfield (f := (6, 8, 779)) eX7_text dX7_text_36 (by decide +kernel),
  fun l0 x st σ => dn_if_ne eX7_text dX7_text_39 (by decide),
  fun x st σ => dn_aload_n eX7_text dX7_text_42 rfl,
  fun l0 q st σ => dn_getfield (f := (6, 13, 784)) eX7_text dX7_text_43 (by decide +kernel),
  fun l0 x st σ => dn_if_le eX7_text dX7_text_46 (by decide),
  fun x st σ => dn_aload_n eX7_text dX7_text_49 rfl,
  fun l0 q st σ => dn_getfield (f := (6, 8, 779)) eX7_text dX7_text_50 (by decide +kernel),
  fun l0 st σ => dn_iconst eX7_text dX7_text_53 kc_iconst_5,
  fun l0 x y st σ => dn_icmp_ne eX7_text dX7_text_54 (by decide),
  fun x st σ => dn_aload_n eX7_text dX7_text_57 rfl,
  fun l0 q st σ => dn_getfield (f := (6, 13, 784)) eX7_text dX7_text_58 (by decide +kernel),
  fun l0 x st σ => dn_if_le eX7_text dX7_text_61 (by decide),
  fun x st σ => dn_aload_n eX7_text dX7_text_64 rfl,
  fun l0 q σ => rX7_text_65 l0 q σ,
  fun l0 st σ => dn_goto eX7_text dX7_text_68 (by decide),
  fun x st σ => dn_aload_n eX7_text dX7_text_71 rfl,
  fun l0 q σ => rX7_text_72 l0 q σ,
  fun l0 st σ => dn_goto eX7_text dX7_text_75 (by decide),
  fun x st σ => dn_aload_n eX7_text dX7_text_78 rfl,
  fun l0 st σ => dn_iconst eX7_text dX7_text_79 kc_iconst_0,
  fun l0 x q st σ => dn_putfield (f := (6, 5, 776)) (ty := .int) eX7_text dX7_text_80 (by decide +kernel) (by decide +kernel) rfl⟩
set_option maxRecDepth 20000 in
theorem SX7_text_1 : (∀ (x : Nat) (st : List Value) (σ : dS), den mX7_text 83 [some (.ref x)] st σ = den mX7_text 84 [some (.ref x)] (.ref x :: st) σ) ∧
  (∀ (l0 : Option Value) (q : Nat) (st : List Value) (σ : dS), den mX7_text 84 [l0] (.ref q :: st) σ = (dget σ q 6 10).bind fun v => den mX7_text 87 [l0] (v :: st) σ) ∧
  (∀ (l0 : Option Value) (x : Int32) (st : List Value) (σ : dS), den mX7_text 87 [l0] (.int x :: st) σ = if 0 < x then den mX7_text 90 [l0] st σ else den mX7_text 98 [l0] st σ) ∧
  (∀ (l0 : Option Value) (st : List Value) (σ : dS), den mX7_text 90 [l0] st σ = den mX7_text 92 [l0] (.int ((-10)) :: st) σ) ∧
  (∀ (x : Nat) (st : List Value) (σ : dS), den mX7_text 92 [some (.ref x)] st σ = den mX7_text 93 [some (.ref x)] (.ref x :: st) σ) ∧
  (∀ (l0 : Option Value) (q : Nat) (st : List Value) (σ : dS), den mX7_text 93 [l0] (.ref q :: st) σ = (dget σ q 6 11).bind fun v => den mX7_text 96 [l0] (v :: st) σ) ∧
  (∀ (l0 : Option Value) (x y : Int32) (st : List Value) (σ : dS), den mX7_text 96 [l0] (.int y :: .int x :: st) σ = den mX7_text 97 [l0] (.int (x - y) :: st) σ) ∧
  (∀ (l0 : Option Value) (v : Int32) (σ : dS), den mX7_text 97 [l0] [.int v] σ = some (some (.int v), σ)) ∧
  (∀ (x : Nat) (st : List Value) (σ : dS), den mX7_text 98 [some (.ref x)] st σ = den mX7_text 99 [some (.ref x)] (.ref x :: st) σ) ∧
  (∀ (l0 : Option Value) (q : Nat) (σ : dS), den mX7_text 99 [l0] [.ref q] σ = if disO σ q 6 = true then ((dcall mX7_keepDraft [.ref q] σ).bind fun r => den mX7_text 102 [l0] (r.1.toList ++ []) r.2) else none) ∧
  (∀ (x : Nat) (st : List Value) (σ : dS), den mX7_text 102 [some (.ref x)] st σ = den mX7_text 103 [some (.ref x)] (.ref x :: st) σ) ∧
  (∀ (l0 : Option Value) (q : Nat) (st : List Value) (σ : dS), den mX7_text 103 [l0] (.ref q :: st) σ = (dget σ q 6 0).bind fun v => den mX7_text 106 [l0] (v :: st) σ) ∧
  (∀ (l0 : Option Value) (st : List Value) (σ : dS), den mX7_text 106 [l0] st σ = den mX7_text 108 [l0] (.int (nI 120) :: st) σ) ∧
  (∀ (l0 : Option Value) (q : Nat) (i : Int32) (st : List Value) (σ : dS), den mX7_text 108 [l0] (.int i :: .ref q :: st) σ = if q ≤ dN then (dald σ q 0 i).bind (fun v => den mX7_text 109 [l0] (.int v :: st) σ) else none) ∧
  (∀ (l0 : Option Value) (v : Int32) (σ : dS), den mX7_text 109 [l0] [.int v] σ = some (some (.int v), σ)) :=
  ⟨fun x st σ => dn_aload_n eX7_text dX7_text_83 rfl,
  fun l0 q st σ => dn_getfield (f := (6, 10, 781)) eX7_text dX7_text_84 (by decide +kernel),
  fun l0 x st σ => dn_if_le eX7_text dX7_text_87 (by decide),
  fun l0 st σ => dn_bipush eX7_text dX7_text_90 kc_bipush_m10,
  fun x st σ => dn_aload_n eX7_text dX7_text_92 rfl,
  fun l0 q st σ => dn_getfield (f := (6, 11, 782)) eX7_text dX7_text_93 (by decide +kernel),
  fun l0 x y st σ => dn_isub eX7_text dX7_text_96,
  fun l0 v σ => dn_ireturn eX7_text dX7_text_97 rfl,
  fun x st σ => dn_aload_n eX7_text dX7_text_98 rfl,
  fun l0 q σ => rX7_text_99 l0 q σ,
  fun x st σ => dn_aload_n eX7_text dX7_text_102 rfl,
  fun l0 q st σ => dn_getfield (f := (6, 0, 771)) eX7_text dX7_text_103 (by decide +kernel),
  fun l0 st σ => dn_bipush eX7_text dX7_text_106 kc_bipush_120,
  fun l0 q i st σ => dn_iaload eX7_text dX7_text_108,
  fun l0 v σ => dn_ireturn eX7_text dX7_text_109 rfl⟩
theorem CX7_fault (a0 : Nat) (σ : dS) : dcall mX7_fault [.ref a0] σ = den mX7_fault 0 [some (.ref a0)] [] σ := dcall_den (by decide) rfl
set_option maxRecDepth 20000 in
theorem SX7_fault : (∀ (x : Nat) (st : List Value) (σ : dS), den mX7_fault 0 [some (.ref x)] st σ = den mX7_fault 1 [some (.ref x)] (.ref x :: st) σ) ∧
  (∀ (l0 : Option Value) (q : Nat) (st : List Value) (σ : dS), den mX7_fault 1 [l0] (.ref q :: st) σ = (dget σ q 6 10).bind fun v => den mX7_fault 4 [l0] (v :: st) σ) ∧
  (∀ (l0 : Option Value) (v : Int32) (σ : dS), den mX7_fault 4 [l0] [.int v] σ = some (some (.int v), σ)) :=
  ⟨fun x st σ => dn_aload_n eX7_fault dX7_fault_0 rfl,
  fun l0 q st σ => dn_getfield (f := (6, 10, 781)) eX7_fault dX7_fault_1 (by decide +kernel),
  fun l0 v σ => dn_ireturn eX7_fault dX7_fault_4 rfl⟩
theorem CX7_of (a0 : Nat) (a1 : Int32) (a2 : Int32) (σ : dS) : dcall mX7_of [.ref a0, .int a1, .int a2] σ = den mX7_of 0 [some (.ref a0), some (.int a1), some (.int a2)] [] σ := dcall_den (by decide) rfl
set_option maxRecDepth 20000 in
theorem SX7_of : (∀ (l1 l2 : Option Value) (x : Nat) (st : List Value) (σ : dS), den mX7_of 0 [some (.ref x), l1, l2] st σ = den mX7_of 1 [some (.ref x), l1, l2] (.ref x :: st) σ) ∧
  (∀ (l0 l1 l2 : Option Value) (q : Nat) (st : List Value) (σ : dS), den mX7_of 1 [l0, l1, l2] (.ref q :: st) σ = (dget σ q 6 0).bind fun v => den mX7_of 4 [l0, l1, l2] (v :: st) σ) ∧
  (∀ (l0 l1 l2 : Option Value) (st : List Value) (σ : dS), den mX7_of 4 [l0, l1, l2] st σ = den mX7_of 5 [l0, l1, l2] (.int (nI 5) :: st) σ) ∧
  (∀ (l0 l2 : Option Value) (x : Int32) (st : List Value) (σ : dS), den mX7_of 5 [l0, some (.int x), l2] st σ = den mX7_of 6 [l0, some (.int x), l2] (.int x :: st) σ) ∧
  (∀ (l0 l1 l2 : Option Value) (x y : Int32) (st : List Value) (σ : dS), den mX7_of 6 [l0, l1, l2] (.int y :: .int x :: st) σ = den mX7_of 7 [l0, l1, l2] (.int (x * y) :: st) σ) ∧
  (∀ (l0 l1 : Option Value) (x : Int32) (st : List Value) (σ : dS), den mX7_of 7 [l0, l1, some (.int x)] st σ = den mX7_of 8 [l0, l1, some (.int x)] (.int x :: st) σ) ∧
  (∀ (l0 l1 l2 : Option Value) (x y : Int32) (st : List Value) (σ : dS), den mX7_of 8 [l0, l1, l2] (.int y :: .int x :: st) σ = den mX7_of 9 [l0, l1, l2] (.int (x + y) :: st) σ) ∧
  (∀ (l0 l1 l2 : Option Value) (q : Nat) (i : Int32) (st : List Value) (σ : dS), den mX7_of 9 [l0, l1, l2] (.int i :: .ref q :: st) σ = if q ≤ dN then (dald σ q 0 i).bind (fun v => den mX7_of 10 [l0, l1, l2] (.int v :: st) σ) else none) ∧
  (∀ (l0 l1 l2 : Option Value) (v : Int32) (σ : dS), den mX7_of 10 [l0, l1, l2] [.int v] σ = some (some (.int v), σ)) :=
  ⟨fun l1 l2 x st σ => dn_aload_n eX7_of dX7_of_0 rfl,
  fun l0 l1 l2 q st σ => dn_getfield (f := (6, 0, 771)) eX7_of dX7_of_1 (by decide +kernel),
  fun l0 l1 l2 st σ => dn_iconst eX7_of dX7_of_4 kc_iconst_5,
  fun l0 l2 x st σ => dn_iload_n eX7_of dX7_of_5 rfl,
  fun l0 l1 l2 x y st σ => dn_imul eX7_of dX7_of_6,
  fun l0 l1 x st σ => dn_iload_n eX7_of dX7_of_7 rfl,
  fun l0 l1 l2 x y st σ => dn_iadd eX7_of dX7_of_8,
  fun l0 l1 l2 q i st σ => dn_iaload eX7_of dX7_of_9,
  fun l0 l1 l2 v σ => dn_ireturn eX7_of dX7_of_10 rfl⟩
theorem CX7_isCode (a0 : Nat) (a1 : Int32) (σ : dS) : dcall mX7_isCode [.ref a0, .int a1] σ = den mX7_isCode 0 [some (.ref a0), some (.int a1)] [] σ := dcall_den (by decide) rfl
set_option maxRecDepth 20000 in
theorem SX7_isCode : (∀ (l0 : Option Value) (x : Int32) (st : List Value) (σ : dS), den mX7_isCode 0 [l0, some (.int x)] st σ = den mX7_isCode 1 [l0, some (.int x)] (.int x :: st) σ) ∧
  (∀ (l0 l1 : Option Value) (x : Int32) (st : List Value) (σ : dS), den mX7_isCode 1 [l0, l1] (.int x :: st) σ = den mX7_isCode 2 [l0, l1] (.long x.toInt64 :: st) σ) ∧
  (∀ (l0 l1 : Option Value) (st : List Value) (σ : dS), den mX7_isCode 2 [l0, l1] st σ = den mX7_isCode 3 [l0, l1] (.long (lN 0) :: st) σ) ∧
  (∀ (l1 : Option Value) (x : Nat) (st : List Value) (σ : dS), den mX7_isCode 3 [some (.ref x), l1] st σ = den mX7_isCode 4 [some (.ref x), l1] (.ref x :: st) σ) ∧
  (∀ (l0 l1 : Option Value) (q : Nat) (st : List Value) (σ : dS), den mX7_isCode 4 [l0, l1] (.ref q :: st) σ = (dget σ q 6 0).bind fun v => den mX7_isCode 7 [l0, l1] (v :: st) σ) ∧
  (∀ (l0 l1 : Option Value) (st : List Value) (σ : dS), den mX7_isCode 7 [l0, l1] st σ = den mX7_isCode 9 [l0, l1] (.int (nI 120) :: st) σ) ∧
  (∀ (l0 l1 : Option Value) (q : Nat) (i : Int32) (st : List Value) (σ : dS), den mX7_isCode 9 [l0, l1] (.int i :: .ref q :: st) σ = if q ≤ dN then (dald σ q 0 i).bind (fun v => den mX7_isCode 10 [l0, l1] (.int v :: st) σ) else none) ∧
  (∀ (l0 l1 : Option Value) (st : List Value) (σ : dS), den mX7_isCode 10 [l0, l1] st σ = den mX7_isCode 11 [l0, l1] (.int (nI 1) :: st) σ) ∧
  (∀ (l0 l1 : Option Value) (x y : Int32) (st : List Value) (σ : dS), den mX7_isCode 11 [l0, l1] (.int y :: .int x :: st) σ = den mX7_isCode 12 [l0, l1] (.int (x - y) :: st) σ) ∧
  (∀ (l0 l1 : Option Value) (x : Int32) (st : List Value) (σ : dS), den mX7_isCode 12 [l0, l1] (.int x :: st) σ = den mX7_isCode 13 [l0, l1] (.long x.toInt64 :: st) σ) ∧
  (∀ (l0 l1 : Option Value) (a0 : Int64) (a1 : Int64) (a2 : Int64) (σ : dS), den mX7_isCode 13 [l0, l1] [.long a2, .long a1, .long a0] σ = (dcall mX7_in [.long a0, .long a1, .long a2] σ).bind fun r => den mX7_isCode 16 [l0, l1] (r.1.toList ++ []) r.2) ∧
  (∀ (l0 l1 : Option Value) (v : Int32) (σ : dS), den mX7_isCode 16 [l0, l1] [.int v] σ = if v = 0 ∨ v = 1 then some (some (.int v), σ) else none) :=
  ⟨fun l0 x st σ => dn_iload_n eX7_isCode dX7_isCode_0 rfl,
  fun l0 l1 x st σ => dn_i2l eX7_isCode dX7_isCode_1,
  fun l0 l1 st σ => dn_lconst eX7_isCode dX7_isCode_2 kc_lconst_0,
  fun l1 x st σ => dn_aload_n eX7_isCode dX7_isCode_3 rfl,
  fun l0 l1 q st σ => dn_getfield (f := (6, 0, 771)) eX7_isCode dX7_isCode_4 (by decide +kernel),
  fun l0 l1 st σ => dn_bipush eX7_isCode dX7_isCode_7 kc_bipush_120,
  fun l0 l1 q i st σ => dn_iaload eX7_isCode dX7_isCode_9,
  fun l0 l1 st σ => dn_iconst eX7_isCode dX7_isCode_10 kc_iconst_1,
  fun l0 l1 x y st σ => dn_isub eX7_isCode dX7_isCode_11,
  fun l0 l1 x st σ => dn_i2l eX7_isCode dX7_isCode_12,
  fun l0 l1 a0 a1 a2 σ => dn_callS (e := (1, 102, 879)) (as := [.long a0, .long a1, .long a2]) (rest := []) eX7_isCode dX7_isCode_13 (by decide +kernel) (Or.inl rfl) (by decide +kernel) rfl (dcat_le rfl) (dlen_le rfl) rfl,
  fun l0 l1 v σ => dn_zreturn eX7_isCode dX7_isCode_16 rfl⟩
theorem CX7_ifs (a0 : Nat) (σ : dS) : dcall mX7_ifs [.ref a0] σ = den mX7_ifs 0 [some (.ref a0), none, none] [] σ := dcall_den (by decide) rfl
theorem hX7_ifs_4 (l0 l1 : Option Value) (x : Int32) (st : List Value) (σ : dS) : den mX7_ifs 4 [l0, l1, some (.int x)] st σ = den mX7_ifs 5 [l0, l1, some (.int x)] (.int x :: st) σ := dn_iload_n eX7_ifs dX7_ifs_4 rfl
theorem rX7_ifs_19 (l0 l1 l2 : Option Value) (a0 : Int32) (a1 : Int32) (b0 : Int32) (q : Nat) (σ : dS) : den mX7_ifs 19 [l0, l1, l2] [.int a1, .int a0, .ref q, .int b0] σ = if disO σ q 6 = true then ((dcall mX7_of [.ref q, .int a0, .int a1] σ).bind fun r => den mX7_ifs 22 [l0, l1, l2] (r.1.toList ++ [.int b0]) r.2) else none := by
  by_cases h : disO σ q 6 = true
  · rw [if_pos h]; exact dn_callV (e := (0, 120, 947)) (as := [.int a0, .int a1]) (rest := [.int b0]) eX7_ifs dX7_ifs_19 (by decide +kernel) rfl (by decide +kernel) rfl (dcat_le rfl) (dlen_le rfl) rfl h
  · rw [if_neg h]; exact den_noV (e := (0, 120, 947)) (as := [.int a0, .int a1]) (rest := [.int b0]) eX7_ifs dX7_ifs_19 (by decide +kernel) rfl rfl rfl h
set_option maxRecDepth 20000 in
theorem SX7_ifs : (∀ (l0 l1 l2 : Option Value) (st : List Value) (σ : dS), den mX7_ifs 0 [l0, l1, l2] st σ = den mX7_ifs 1 [l0, l1, l2] (.int (nI 0) :: st) σ) ∧
  (∀ (l1 l2 : Option Value) (x : Int32) (y : Nat) (st : List Value) (σ : dS), den mX7_ifs 1 [some (.ref y), l1, l2] (.int x :: st) σ = den mX7_ifs 2 [some (.ref y), some (.int x), l2] st σ) ∧
  (∀ (l0 l1 l2 : Option Value) (st : List Value) (σ : dS), den mX7_ifs 2 [l0, l1, l2] st σ = den mX7_ifs 3 [l0, l1, l2] (.int (nI 0) :: st) σ) ∧
  (∀ (l0 l2 : Option Value) (x : Int32) (y : Int32) (st : List Value) (σ : dS), den mX7_ifs 3 [l0, some (.int y), l2] (.int x :: st) σ = den mX7_ifs 4 [l0, some (.int y), some (.int x)] st σ) ∧
  (∀ (l1 l2 : Option Value) (x : Nat) (st : List Value) (σ : dS), den mX7_ifs 5 [some (.ref x), l1, l2] st σ = den mX7_ifs 6 [some (.ref x), l1, l2] (.ref x :: st) σ) ∧
  (∀ (l0 l1 l2 : Option Value) (q : Nat) (st : List Value) (σ : dS), den mX7_ifs 6 [l0, l1, l2] (.ref q :: st) σ = (dget σ q 6 0).bind fun v => den mX7_ifs 9 [l0, l1, l2] (v :: st) σ) ∧
  (∀ (l0 l1 l2 : Option Value) (st : List Value) (σ : dS), den mX7_ifs 9 [l0, l1, l2] st σ = den mX7_ifs 11 [l0, l1, l2] (.int (nI 120) :: st) σ) ∧
  (∀ (l0 l1 l2 : Option Value) (q : Nat) (i : Int32) (st : List Value) (σ : dS), den mX7_ifs 11 [l0, l1, l2] (.int i :: .ref q :: st) σ = if q ≤ dN then (dald σ q 0 i).bind (fun v => den mX7_ifs 12 [l0, l1, l2] (.int v :: st) σ) else none) ∧
  (∀ (l0 l1 l2 : Option Value) (x y : Int32) (st : List Value) (σ : dS), den mX7_ifs 12 [l0, l1, l2] (.int y :: .int x :: st) σ = if x < y then den mX7_ifs 15 [l0, l1, l2] st σ else den mX7_ifs 42 [l0, l1, l2] st σ) ∧
  (∀ (l0 l2 : Option Value) (x : Int32) (st : List Value) (σ : dS), den mX7_ifs 15 [l0, some (.int x), l2] st σ = den mX7_ifs 16 [l0, some (.int x), l2] (.int x :: st) σ) ∧
  (∀ (l1 l2 : Option Value) (x : Nat) (st : List Value) (σ : dS), den mX7_ifs 16 [some (.ref x), l1, l2] st σ = den mX7_ifs 17 [some (.ref x), l1, l2] (.ref x :: st) σ) ∧
  (∀ (l0 l1 : Option Value) (x : Int32) (st : List Value) (σ : dS), den mX7_ifs 17 [l0, l1, some (.int x)] st σ = den mX7_ifs 18 [l0, l1, some (.int x)] (.int x :: st) σ) ∧
  (∀ (l0 l1 l2 : Option Value) (st : List Value) (σ : dS), den mX7_ifs 18 [l0, l1, l2] st σ = den mX7_ifs 19 [l0, l1, l2] (.int (nI 0) :: st) σ) ∧
  (∀ (l0 l1 l2 : Option Value) (a0 : Int32) (a1 : Int32) (b0 : Int32) (q : Nat) (σ : dS), den mX7_ifs 19 [l0, l1, l2] [.int a1, .int a0, .ref q, .int b0] σ = if disO σ q 6 = true then ((dcall mX7_of [.ref q, .int a0, .int a1] σ).bind fun r => den mX7_ifs 22 [l0, l1, l2] (r.1.toList ++ [.int b0]) r.2) else none) ∧
  (∀ (l0 l1 l2 : Option Value) (st : List Value) (σ : dS), den mX7_ifs 22 [l0, l1, l2] st σ = den mX7_ifs 23 [l0, l1, l2] (.int (nI 5) :: st) σ) ∧
  (∀ (l0 l1 l2 : Option Value) (x y : Int32) (st : List Value) (σ : dS), den mX7_ifs 23 [l0, l1, l2] (.int y :: .int x :: st) σ = if x = y then den mX7_ifs 26 [l0, l1, l2] st σ else den mX7_ifs 30 [l0, l1, l2] st σ) ∧
  (∀ (l0 l1 l2 : Option Value) (st : List Value) (σ : dS), den mX7_ifs 26 [l0, l1, l2] st σ = den mX7_ifs 27 [l0, l1, l2] (.int (nI 1) :: st) σ) ∧
  (∀ (l0 l1 l2 : Option Value) (st : List Value) (σ : dS), den mX7_ifs 27 [l0, l1, l2] st σ = den mX7_ifs 31 [l0, l1, l2] st σ) ∧
  (∀ (l0 l1 l2 : Option Value) (st : List Value) (σ : dS), den mX7_ifs 30 [l0, l1, l2] st σ = den mX7_ifs 31 [l0, l1, l2] (.int (nI 0) :: st) σ) ∧
  (∀ (l0 l1 l2 : Option Value) (a0 : Int32) (b0 : Int32) (σ : dS), den mX7_ifs 31 [l0, l1, l2] [.int a0, .int b0] σ = (dcall mX7_flag [.int a0] σ).bind fun r => den mX7_ifs 34 [l0, l1, l2] (r.1.toList ++ [.int b0]) r.2) ∧
  (∀ (l0 l1 l2 : Option Value) (x y : Int32) (st : List Value) (σ : dS), den mX7_ifs 34 [l0, l1, l2] (.int y :: .int x :: st) σ = den mX7_ifs 35 [l0, l1, l2] (.int (x + y) :: st) σ) ∧
  (∀ (l1 l2 : Option Value) (x : Int32) (y : Nat) (st : List Value) (σ : dS), den mX7_ifs 35 [some (.ref y), l1, l2] (.int x :: st) σ = den mX7_ifs 36 [some (.ref y), some (.int x), l2] st σ) ∧
  (∀ (l0 : Option Value) (x : Int32) (y : Int32) (st : List Value) (σ : dS), den mX7_ifs 36 [l0, some (.int y), some (.int x)] st σ = den mX7_ifs 39 [l0, some (.int y), some (.int (x + nI 1))] st σ) ∧
  (∀ (l0 l1 l2 : Option Value) (st : List Value) (σ : dS), den mX7_ifs 39 [l0, l1, l2] st σ = den mX7_ifs 4 [l0, l1, l2] st σ) ∧
  (∀ (l0 l2 : Option Value) (x : Int32) (st : List Value) (σ : dS), den mX7_ifs 42 [l0, some (.int x), l2] st σ = den mX7_ifs 43 [l0, some (.int x), l2] (.int x :: st) σ) ∧
  (∀ (l0 l1 l2 : Option Value) (v : Int32) (σ : dS), den mX7_ifs 43 [l0, l1, l2] [.int v] σ = some (some (.int v), σ)) :=
  ⟨fun l0 l1 l2 st σ => dn_iconst eX7_ifs dX7_ifs_0 kc_iconst_0,
  fun l1 l2 x y st σ => dn_istore_n eX7_ifs dX7_ifs_1 rfl,
  fun l0 l1 l2 st σ => dn_iconst eX7_ifs dX7_ifs_2 kc_iconst_0,
  fun l0 l2 x y st σ => dn_istore_n eX7_ifs dX7_ifs_3 rfl,
  fun l1 l2 x st σ => dn_aload_n eX7_ifs dX7_ifs_5 rfl,
  fun l0 l1 l2 q st σ => dn_getfield (f := (6, 0, 771)) eX7_ifs dX7_ifs_6 (by decide +kernel),
  fun l0 l1 l2 st σ => dn_bipush eX7_ifs dX7_ifs_9 kc_bipush_120,
  fun l0 l1 l2 q i st σ => dn_iaload eX7_ifs dX7_ifs_11,
  fun l0 l1 l2 x y st σ => dn_icmp_ge eX7_ifs dX7_ifs_12 (by decide),
  fun l0 l2 x st σ => dn_iload_n eX7_ifs dX7_ifs_15 rfl,
  fun l1 l2 x st σ => dn_aload_n eX7_ifs dX7_ifs_16 rfl,
  fun l0 l1 x st σ => dn_iload_n eX7_ifs dX7_ifs_17 rfl,
  fun l0 l1 l2 st σ => dn_iconst eX7_ifs dX7_ifs_18 kc_iconst_0,
  fun l0 l1 l2 a0 a1 b0 q σ => rX7_ifs_19 l0 l1 l2 a0 a1 b0 q σ,
  fun l0 l1 l2 st σ => dn_iconst eX7_ifs dX7_ifs_22 kc_iconst_5,
  fun l0 l1 l2 x y st σ => dn_icmp_ne eX7_ifs dX7_ifs_23 (by decide),
  fun l0 l1 l2 st σ => dn_iconst eX7_ifs dX7_ifs_26 kc_iconst_1,
  fun l0 l1 l2 st σ => dn_goto eX7_ifs dX7_ifs_27 (by decide),
  fun l0 l1 l2 st σ => dn_iconst eX7_ifs dX7_ifs_30 kc_iconst_0,
  fun l0 l1 l2 a0 b0 σ => dn_callS (e := (1, 103, 951)) (as := [.int a0]) (rest := [.int b0]) eX7_ifs dX7_ifs_31 (by decide +kernel) (Or.inl rfl) (by decide +kernel) rfl (dcat_le rfl) (dlen_le rfl) rfl,
  fun l0 l1 l2 x y st σ => dn_iadd eX7_ifs dX7_ifs_34,
  fun l1 l2 x y st σ => dn_istore_n eX7_ifs dX7_ifs_35 rfl,
  fun l0 x y st σ => dn_iinc (v := nI 1) eX7_ifs dX7_ifs_36 rfl kc_iconst_1 rfl,
  fun l0 l1 l2 st σ => dn_goto eX7_ifs dX7_ifs_39 (by decide),
  fun l0 l2 x st σ => dn_iload_n eX7_ifs dX7_ifs_42 rfl,
  fun l0 l1 l2 v σ => dn_ireturn eX7_ifs dX7_ifs_43 rfl⟩
theorem CX7_codeOf (a0 : Nat) (a1 : Int32) (σ : dS) : dcall mX7_codeOf [.ref a0, .int a1] σ = den mX7_codeOf 0 [some (.ref a0), some (.int a1), none, none] [] σ := dcall_den (by decide) rfl
theorem hX7_codeOf_4 (l0 l1 l2 : Option Value) (x : Int32) (st : List Value) (σ : dS) : den mX7_codeOf 4 [l0, l1, l2, some (.int x)] st σ = den mX7_codeOf 5 [l0, l1, l2, some (.int x)] (.int x :: st) σ := dn_iload_n eX7_codeOf dX7_codeOf_4 rfl
theorem rX7_codeOf_18 (l0 l1 l2 l3 : Option Value) (a0 : Int32) (a1 : Int32) (q : Nat) (σ : dS) : den mX7_codeOf 18 [l0, l1, l2, l3] [.int a1, .int a0, .ref q] σ = if disO σ q 6 = true then ((dcall mX7_of [.ref q, .int a0, .int a1] σ).bind fun r => den mX7_codeOf 21 [l0, l1, l2, l3] (r.1.toList ++ []) r.2) else none := by
  by_cases h : disO σ q 6 = true
  · rw [if_pos h]; exact dn_callV (e := (0, 120, 947)) (as := [.int a0, .int a1]) (rest := []) eX7_codeOf dX7_codeOf_18 (by decide +kernel) rfl (by decide +kernel) rfl (dcat_le rfl) (dlen_le rfl) rfl h
  · rw [if_neg h]; exact den_noV (e := (0, 120, 947)) (as := [.int a0, .int a1]) (rest := []) eX7_codeOf dX7_codeOf_18 (by decide +kernel) rfl rfl rfl h
set_option maxRecDepth 20000 in
theorem SX7_codeOf : (∀ (l0 l2 l3 : Option Value) (x : Int32) (st : List Value) (σ : dS), den mX7_codeOf 0 [l0, some (.int x), l2, l3] st σ = den mX7_codeOf 1 [l0, some (.int x), l2, l3] (.int x :: st) σ) ∧
  (∀ (l0 l2 l3 : Option Value) (x : Int32) (y : Int32) (st : List Value) (σ : dS), den mX7_codeOf 1 [l0, some (.int y), l2, l3] (.int x :: st) σ = den mX7_codeOf 2 [l0, some (.int y), some (.int x), l3] st σ) ∧
  (∀ (l0 l1 l2 l3 : Option Value) (st : List Value) (σ : dS), den mX7_codeOf 2 [l0, l1, l2, l3] st σ = den mX7_codeOf 3 [l0, l1, l2, l3] (.int (nI 0) :: st) σ) ∧
  (∀ (l0 l1 l3 : Option Value) (x : Int32) (y : Int32) (st : List Value) (σ : dS), den mX7_codeOf 3 [l0, l1, some (.int y), l3] (.int x :: st) σ = den mX7_codeOf 4 [l0, l1, some (.int y), some (.int x)] st σ) ∧
  (∀ (l1 l2 l3 : Option Value) (x : Nat) (st : List Value) (σ : dS), den mX7_codeOf 5 [some (.ref x), l1, l2, l3] st σ = den mX7_codeOf 6 [some (.ref x), l1, l2, l3] (.ref x :: st) σ) ∧
  (∀ (l0 l1 l2 l3 : Option Value) (q : Nat) (st : List Value) (σ : dS), den mX7_codeOf 6 [l0, l1, l2, l3] (.ref q :: st) σ = (dget σ q 6 0).bind fun v => den mX7_codeOf 9 [l0, l1, l2, l3] (v :: st) σ) ∧
  (∀ (l0 l1 l2 l3 : Option Value) (st : List Value) (σ : dS), den mX7_codeOf 9 [l0, l1, l2, l3] st σ = den mX7_codeOf 11 [l0, l1, l2, l3] (.int (nI 120) :: st) σ) ∧
  (∀ (l0 l1 l2 l3 : Option Value) (q : Nat) (i : Int32) (st : List Value) (σ : dS), den mX7_codeOf 11 [l0, l1, l2, l3] (.int i :: .ref q :: st) σ = if q ≤ dN then (dald σ q 0 i).bind (fun v => den mX7_codeOf 12 [l0, l1, l2, l3] (.int v :: st) σ) else none) ∧
  (∀ (l0 l1 l2 l3 : Option Value) (x y : Int32) (st : List Value) (σ : dS), den mX7_codeOf 12 [l0, l1, l2, l3] (.int y :: .int x :: st) σ = if x < y then den mX7_codeOf 15 [l0, l1, l2, l3] st σ else den mX7_codeOf 40 [l0, l1, l2, l3] st σ) ∧
  (∀ (l1 l2 l3 : Option Value) (x : Nat) (st : List Value) (σ : dS), den mX7_codeOf 15 [some (.ref x), l1, l2, l3] st σ = den mX7_codeOf 16 [some (.ref x), l1, l2, l3] (.ref x :: st) σ) ∧
  (∀ (l0 l1 l2 : Option Value) (x : Int32) (st : List Value) (σ : dS), den mX7_codeOf 16 [l0, l1, l2, some (.int x)] st σ = den mX7_codeOf 17 [l0, l1, l2, some (.int x)] (.int x :: st) σ) ∧
  (∀ (l0 l1 l2 l3 : Option Value) (st : List Value) (σ : dS), den mX7_codeOf 17 [l0, l1, l2, l3] st σ = den mX7_codeOf 18 [l0, l1, l2, l3] (.int (nI 0) :: st) σ) ∧
  (∀ (l0 l1 l2 l3 : Option Value) (a0 : Int32) (a1 : Int32) (q : Nat) (σ : dS), den mX7_codeOf 18 [l0, l1, l2, l3] [.int a1, .int a0, .ref q] σ = if disO σ q 6 = true then ((dcall mX7_of [.ref q, .int a0, .int a1] σ).bind fun r => den mX7_codeOf 21 [l0, l1, l2, l3] (r.1.toList ++ []) r.2) else none) ∧
  (∀ (l0 l1 l2 l3 : Option Value) (st : List Value) (σ : dS), den mX7_codeOf 21 [l0, l1, l2, l3] st σ = den mX7_codeOf 22 [l0, l1, l2, l3] (.int (nI 5) :: st) σ) ∧
  (∀ (l0 l1 l2 l3 : Option Value) (x y : Int32) (st : List Value) (σ : dS), den mX7_codeOf 22 [l0, l1, l2, l3] (.int y :: .int x :: st) σ = if x = y then den mX7_codeOf 25 [l0, l1, l2, l3] st σ else den mX7_codeOf 34 [l0, l1, l2, l3] st σ) ∧
  (∀ (l0 l1 l3 : Option Value) (x : Int32) (st : List Value) (σ : dS), den mX7_codeOf 25 [l0, l1, some (.int x), l3] st σ = den mX7_codeOf 26 [l0, l1, some (.int x), l3] (.int x :: st) σ) ∧
  (∀ (l0 l1 l2 l3 : Option Value) (x : Int32) (st : List Value) (σ : dS), den mX7_codeOf 26 [l0, l1, l2, l3] (.int x :: st) σ = if x = 0 then den mX7_codeOf 29 [l0, l1, l2, l3] st σ else den mX7_codeOf 31 [l0, l1, l2, l3] st σ) ∧
  (∀ (l0 l1 l2 : Option Value) (x : Int32) (st : List Value) (σ : dS), den mX7_codeOf 29 [l0, l1, l2, some (.int x)] st σ = den mX7_codeOf 30 [l0, l1, l2, some (.int x)] (.int x :: st) σ) ∧
  (∀ (l0 l1 l2 l3 : Option Value) (v : Int32) (σ : dS), den mX7_codeOf 30 [l0, l1, l2, l3] [.int v] σ = some (some (.int v), σ)) ∧
  (∀ (l0 l3 : Option Value) (x : Int32) (y : Int32) (st : List Value) (σ : dS), den mX7_codeOf 31 [l0, some (.int y), some (.int x), l3] st σ = den mX7_codeOf 34 [l0, some (.int y), some (.int (x + (-1))), l3] st σ) ∧
  (∀ (l0 l1 : Option Value) (x : Int32) (y : Int32) (st : List Value) (σ : dS), den mX7_codeOf 34 [l0, l1, some (.int y), some (.int x)] st σ = den mX7_codeOf 37 [l0, l1, some (.int y), some (.int (x + nI 1))] st σ) ∧
  (∀ (l0 l1 l2 l3 : Option Value) (st : List Value) (σ : dS), den mX7_codeOf 37 [l0, l1, l2, l3] st σ = den mX7_codeOf 4 [l0, l1, l2, l3] st σ) ∧
  (∀ (l0 l1 l2 l3 : Option Value) (st : List Value) (σ : dS), den mX7_codeOf 40 [l0, l1, l2, l3] st σ = den mX7_codeOf 42 [l0, l1, l2, l3] (.int ((-4)) :: st) σ) ∧
  (∀ (l0 l1 l2 l3 : Option Value) (v : Int32) (σ : dS), den mX7_codeOf 42 [l0, l1, l2, l3] [.int v] σ = some (some (.int v), σ)) :=
  ⟨fun l0 l2 l3 x st σ => dn_iload_n eX7_codeOf dX7_codeOf_0 rfl,
  fun l0 l2 l3 x y st σ => dn_istore_n eX7_codeOf dX7_codeOf_1 rfl,
  fun l0 l1 l2 l3 st σ => dn_iconst eX7_codeOf dX7_codeOf_2 kc_iconst_0,
  fun l0 l1 l3 x y st σ => dn_istore_n eX7_codeOf dX7_codeOf_3 rfl,
  fun l1 l2 l3 x st σ => dn_aload_n eX7_codeOf dX7_codeOf_5 rfl,
  fun l0 l1 l2 l3 q st σ => dn_getfield (f := (6, 0, 771)) eX7_codeOf dX7_codeOf_6 (by decide +kernel),
  fun l0 l1 l2 l3 st σ => dn_bipush eX7_codeOf dX7_codeOf_9 kc_bipush_120,
  fun l0 l1 l2 l3 q i st σ => dn_iaload eX7_codeOf dX7_codeOf_11,
  fun l0 l1 l2 l3 x y st σ => dn_icmp_ge eX7_codeOf dX7_codeOf_12 (by decide),
  fun l1 l2 l3 x st σ => dn_aload_n eX7_codeOf dX7_codeOf_15 rfl,
  fun l0 l1 l2 x st σ => dn_iload_n eX7_codeOf dX7_codeOf_16 rfl,
  fun l0 l1 l2 l3 st σ => dn_iconst eX7_codeOf dX7_codeOf_17 kc_iconst_0,
  fun l0 l1 l2 l3 a0 a1 q σ => rX7_codeOf_18 l0 l1 l2 l3 a0 a1 q σ,
  fun l0 l1 l2 l3 st σ => dn_iconst eX7_codeOf dX7_codeOf_21 kc_iconst_5,
  fun l0 l1 l2 l3 x y st σ => dn_icmp_ne eX7_codeOf dX7_codeOf_22 (by decide),
  fun l0 l1 l3 x st σ => dn_iload_n eX7_codeOf dX7_codeOf_25 rfl,
  fun l0 l1 l2 l3 x st σ => dn_if_ne eX7_codeOf dX7_codeOf_26 (by decide),
  fun l0 l1 l2 x st σ => dn_iload_n eX7_codeOf dX7_codeOf_29 rfl,
  fun l0 l1 l2 l3 v σ => dn_ireturn eX7_codeOf dX7_codeOf_30 rfl,
  fun l0 l3 x y st σ => dn_iinc (v := (-1)) eX7_codeOf dX7_codeOf_31 rfl kc_iconst_m1 rfl,
  fun l0 l1 x y st σ => dn_iinc (v := nI 1) eX7_codeOf dX7_codeOf_34 rfl kc_iconst_1 rfl,
  fun l0 l1 l2 l3 st σ => dn_goto eX7_codeOf dX7_codeOf_37 (by decide),
  fun l0 l1 l2 l3 st σ => dn_bipush eX7_codeOf dX7_codeOf_40 kc_bipush_m4,
  fun l0 l1 l2 l3 v σ => dn_ireturn eX7_codeOf dX7_codeOf_42 rfl⟩
theorem CX7_ifOf (a0 : Nat) (a1 : Int32) (σ : dS) : dcall mX7_ifOf [.ref a0, .int a1] σ = den mX7_ifOf 0 [some (.ref a0), some (.int a1), none, none] [] σ := dcall_den (by decide) rfl
theorem hX7_ifOf_4 (l0 l1 l2 : Option Value) (x : Int32) (st : List Value) (σ : dS) : den mX7_ifOf 4 [l0, l1, l2, some (.int x)] st σ = den mX7_ifOf 5 [l0, l1, l2, some (.int x)] (.int x :: st) σ := dn_iload_n eX7_ifOf dX7_ifOf_4 rfl
theorem rX7_ifOf_13 (l0 l1 l2 l3 : Option Value) (a0 : Int32) (a1 : Int32) (b0 : Int32) (q : Nat) (σ : dS) : den mX7_ifOf 13 [l0, l1, l2, l3] [.int a1, .int a0, .ref q, .int b0] σ = if disO σ q 6 = true then ((dcall mX7_of [.ref q, .int a0, .int a1] σ).bind fun r => den mX7_ifOf 16 [l0, l1, l2, l3] (r.1.toList ++ [.int b0]) r.2) else none := by
  by_cases h : disO σ q 6 = true
  · rw [if_pos h]; exact dn_callV (e := (0, 120, 947)) (as := [.int a0, .int a1]) (rest := [.int b0]) eX7_ifOf dX7_ifOf_13 (by decide +kernel) rfl (by decide +kernel) rfl (dcat_le rfl) (dlen_le rfl) rfl h
  · rw [if_neg h]; exact den_noV (e := (0, 120, 947)) (as := [.int a0, .int a1]) (rest := [.int b0]) eX7_ifOf dX7_ifOf_13 (by decide +kernel) rfl rfl rfl h
set_option maxRecDepth 20000 in
theorem SX7_ifOf : (∀ (l0 l1 l2 l3 : Option Value) (st : List Value) (σ : dS), den mX7_ifOf 0 [l0, l1, l2, l3] st σ = den mX7_ifOf 1 [l0, l1, l2, l3] (.int (nI 0) :: st) σ) ∧
  (∀ (l0 l2 l3 : Option Value) (x : Int32) (y : Int32) (st : List Value) (σ : dS), den mX7_ifOf 1 [l0, some (.int y), l2, l3] (.int x :: st) σ = den mX7_ifOf 2 [l0, some (.int y), some (.int x), l3] st σ) ∧
  (∀ (l0 l1 l2 l3 : Option Value) (st : List Value) (σ : dS), den mX7_ifOf 2 [l0, l1, l2, l3] st σ = den mX7_ifOf 3 [l0, l1, l2, l3] (.int (nI 0) :: st) σ) ∧
  (∀ (l0 l1 l3 : Option Value) (x : Int32) (y : Int32) (st : List Value) (σ : dS), den mX7_ifOf 3 [l0, l1, some (.int y), l3] (.int x :: st) σ = den mX7_ifOf 4 [l0, l1, some (.int y), some (.int x)] st σ) ∧
  (∀ (l0 l2 l3 : Option Value) (x : Int32) (st : List Value) (σ : dS), den mX7_ifOf 5 [l0, some (.int x), l2, l3] st σ = den mX7_ifOf 6 [l0, some (.int x), l2, l3] (.int x :: st) σ) ∧
  (∀ (l0 l1 l2 l3 : Option Value) (x y : Int32) (st : List Value) (σ : dS), den mX7_ifOf 6 [l0, l1, l2, l3] (.int y :: .int x :: st) σ = if x < y then den mX7_ifOf 9 [l0, l1, l2, l3] st σ else den mX7_ifOf 36 [l0, l1, l2, l3] st σ) ∧
  (∀ (l0 l1 l3 : Option Value) (x : Int32) (st : List Value) (σ : dS), den mX7_ifOf 9 [l0, l1, some (.int x), l3] st σ = den mX7_ifOf 10 [l0, l1, some (.int x), l3] (.int x :: st) σ) ∧
  (∀ (l1 l2 l3 : Option Value) (x : Nat) (st : List Value) (σ : dS), den mX7_ifOf 10 [some (.ref x), l1, l2, l3] st σ = den mX7_ifOf 11 [some (.ref x), l1, l2, l3] (.ref x :: st) σ) ∧
  (∀ (l0 l1 l2 : Option Value) (x : Int32) (st : List Value) (σ : dS), den mX7_ifOf 11 [l0, l1, l2, some (.int x)] st σ = den mX7_ifOf 12 [l0, l1, l2, some (.int x)] (.int x :: st) σ) ∧
  (∀ (l0 l1 l2 l3 : Option Value) (st : List Value) (σ : dS), den mX7_ifOf 12 [l0, l1, l2, l3] st σ = den mX7_ifOf 13 [l0, l1, l2, l3] (.int (nI 0) :: st) σ) ∧
  (∀ (l0 l1 l2 l3 : Option Value) (a0 : Int32) (a1 : Int32) (b0 : Int32) (q : Nat) (σ : dS), den mX7_ifOf 13 [l0, l1, l2, l3] [.int a1, .int a0, .ref q, .int b0] σ = if disO σ q 6 = true then ((dcall mX7_of [.ref q, .int a0, .int a1] σ).bind fun r => den mX7_ifOf 16 [l0, l1, l2, l3] (r.1.toList ++ [.int b0]) r.2) else none) ∧
  (∀ (l0 l1 l2 l3 : Option Value) (st : List Value) (σ : dS), den mX7_ifOf 16 [l0, l1, l2, l3] st σ = den mX7_ifOf 17 [l0, l1, l2, l3] (.int (nI 5) :: st) σ) ∧
  (∀ (l0 l1 l2 l3 : Option Value) (x y : Int32) (st : List Value) (σ : dS), den mX7_ifOf 17 [l0, l1, l2, l3] (.int y :: .int x :: st) σ = if x = y then den mX7_ifOf 20 [l0, l1, l2, l3] st σ else den mX7_ifOf 24 [l0, l1, l2, l3] st σ) ∧
  (∀ (l0 l1 l2 l3 : Option Value) (st : List Value) (σ : dS), den mX7_ifOf 20 [l0, l1, l2, l3] st σ = den mX7_ifOf 21 [l0, l1, l2, l3] (.int (nI 1) :: st) σ) ∧
  (∀ (l0 l1 l2 l3 : Option Value) (st : List Value) (σ : dS), den mX7_ifOf 21 [l0, l1, l2, l3] st σ = den mX7_ifOf 25 [l0, l1, l2, l3] st σ) ∧
  (∀ (l0 l1 l2 l3 : Option Value) (st : List Value) (σ : dS), den mX7_ifOf 24 [l0, l1, l2, l3] st σ = den mX7_ifOf 25 [l0, l1, l2, l3] (.int (nI 0) :: st) σ) ∧
  (∀ (l0 l1 l2 l3 : Option Value) (a0 : Int32) (b0 : Int32) (σ : dS), den mX7_ifOf 25 [l0, l1, l2, l3] [.int a0, .int b0] σ = (dcall mX7_flag [.int a0] σ).bind fun r => den mX7_ifOf 28 [l0, l1, l2, l3] (r.1.toList ++ [.int b0]) r.2) ∧
  (∀ (l0 l1 l2 l3 : Option Value) (x y : Int32) (st : List Value) (σ : dS), den mX7_ifOf 28 [l0, l1, l2, l3] (.int y :: .int x :: st) σ = den mX7_ifOf 29 [l0, l1, l2, l3] (.int (x + y) :: st) σ) ∧
  (∀ (l0 l2 l3 : Option Value) (x : Int32) (y : Int32) (st : List Value) (σ : dS), den mX7_ifOf 29 [l0, some (.int y), l2, l3] (.int x :: st) σ = den mX7_ifOf 30 [l0, some (.int y), some (.int x), l3] st σ) ∧
  (∀ (l0 l1 : Option Value) (x : Int32) (y : Int32) (st : List Value) (σ : dS), den mX7_ifOf 30 [l0, l1, some (.int y), some (.int x)] st σ = den mX7_ifOf 33 [l0, l1, some (.int y), some (.int (x + nI 1))] st σ) ∧
  (∀ (l0 l1 l2 l3 : Option Value) (st : List Value) (σ : dS), den mX7_ifOf 33 [l0, l1, l2, l3] st σ = den mX7_ifOf 4 [l0, l1, l2, l3] st σ) ∧
  (∀ (l0 l1 l3 : Option Value) (x : Int32) (st : List Value) (σ : dS), den mX7_ifOf 36 [l0, l1, some (.int x), l3] st σ = den mX7_ifOf 37 [l0, l1, some (.int x), l3] (.int x :: st) σ) ∧
  (∀ (l0 l1 l2 l3 : Option Value) (v : Int32) (σ : dS), den mX7_ifOf 37 [l0, l1, l2, l3] [.int v] σ = some (some (.int v), σ)) :=
  ⟨fun l0 l1 l2 l3 st σ => dn_iconst eX7_ifOf dX7_ifOf_0 kc_iconst_0,
  fun l0 l2 l3 x y st σ => dn_istore_n eX7_ifOf dX7_ifOf_1 rfl,
  fun l0 l1 l2 l3 st σ => dn_iconst eX7_ifOf dX7_ifOf_2 kc_iconst_0,
  fun l0 l1 l3 x y st σ => dn_istore_n eX7_ifOf dX7_ifOf_3 rfl,
  fun l0 l2 l3 x st σ => dn_iload_n eX7_ifOf dX7_ifOf_5 rfl,
  fun l0 l1 l2 l3 x y st σ => dn_icmp_ge eX7_ifOf dX7_ifOf_6 (by decide),
  fun l0 l1 l3 x st σ => dn_iload_n eX7_ifOf dX7_ifOf_9 rfl,
  fun l1 l2 l3 x st σ => dn_aload_n eX7_ifOf dX7_ifOf_10 rfl,
  fun l0 l1 l2 x st σ => dn_iload_n eX7_ifOf dX7_ifOf_11 rfl,
  fun l0 l1 l2 l3 st σ => dn_iconst eX7_ifOf dX7_ifOf_12 kc_iconst_0,
  fun l0 l1 l2 l3 a0 a1 b0 q σ => rX7_ifOf_13 l0 l1 l2 l3 a0 a1 b0 q σ,
  fun l0 l1 l2 l3 st σ => dn_iconst eX7_ifOf dX7_ifOf_16 kc_iconst_5,
  fun l0 l1 l2 l3 x y st σ => dn_icmp_ne eX7_ifOf dX7_ifOf_17 (by decide),
  fun l0 l1 l2 l3 st σ => dn_iconst eX7_ifOf dX7_ifOf_20 kc_iconst_1,
  fun l0 l1 l2 l3 st σ => dn_goto eX7_ifOf dX7_ifOf_21 (by decide),
  fun l0 l1 l2 l3 st σ => dn_iconst eX7_ifOf dX7_ifOf_24 kc_iconst_0,
  fun l0 l1 l2 l3 a0 b0 σ => dn_callS (e := (1, 103, 951)) (as := [.int a0]) (rest := [.int b0]) eX7_ifOf dX7_ifOf_25 (by decide +kernel) (Or.inl rfl) (by decide +kernel) rfl (dcat_le rfl) (dlen_le rfl) rfl,
  fun l0 l1 l2 l3 x y st σ => dn_iadd eX7_ifOf dX7_ifOf_28,
  fun l0 l2 l3 x y st σ => dn_istore_n eX7_ifOf dX7_ifOf_29 rfl,
  fun l0 l1 x y st σ => dn_iinc (v := nI 1) eX7_ifOf dX7_ifOf_30 rfl kc_iconst_1 rfl,
  fun l0 l1 l2 l3 st σ => dn_goto eX7_ifOf dX7_ifOf_33 (by decide),
  fun l0 l1 l3 x st σ => dn_iload_n eX7_ifOf dX7_ifOf_36 rfl,
  fun l0 l1 l2 l3 v σ => dn_ireturn eX7_ifOf dX7_ifOf_37 rfl⟩
theorem CX7_isIf (a0 : Nat) (a1 : Int32) (σ : dS) : dcall mX7_isIf [.ref a0, .int a1] σ = den mX7_isIf 0 [some (.ref a0), some (.int a1)] [] σ := dcall_den (by decide) rfl
theorem rX7_isIf_4 (l0 l1 : Option Value) (b0 : Int64) (b1 : Int64) (q : Nat) (σ : dS) : den mX7_isIf 4 [l0, l1] [.ref q, .long b0, .long b1] σ = if disO σ q 6 = true then ((dcall mX7_ifs [.ref q] σ).bind fun r => den mX7_isIf 7 [l0, l1] (r.1.toList ++ [.long b0, .long b1]) r.2) else none := by
  by_cases h : disO σ q 6 = true
  · rw [if_pos h]; exact dn_callV (e := (0, 122, 943)) (as := []) (rest := [.long b0, .long b1]) eX7_isIf dX7_isIf_4 (by decide +kernel) rfl (by decide +kernel) rfl (dcat_le rfl) (dlen_le rfl) rfl h
  · rw [if_neg h]; exact den_noV (e := (0, 122, 943)) (as := []) (rest := [.long b0, .long b1]) eX7_isIf dX7_isIf_4 (by decide +kernel) rfl rfl rfl h
set_option maxRecDepth 20000 in
theorem SX7_isIf : (∀ (l0 : Option Value) (x : Int32) (st : List Value) (σ : dS), den mX7_isIf 0 [l0, some (.int x)] st σ = den mX7_isIf 1 [l0, some (.int x)] (.int x :: st) σ) ∧
  (∀ (l0 l1 : Option Value) (x : Int32) (st : List Value) (σ : dS), den mX7_isIf 1 [l0, l1] (.int x :: st) σ = den mX7_isIf 2 [l0, l1] (.long x.toInt64 :: st) σ) ∧
  (∀ (l0 l1 : Option Value) (st : List Value) (σ : dS), den mX7_isIf 2 [l0, l1] st σ = den mX7_isIf 3 [l0, l1] (.long (lN 0) :: st) σ) ∧
  (∀ (l1 : Option Value) (x : Nat) (st : List Value) (σ : dS), den mX7_isIf 3 [some (.ref x), l1] st σ = den mX7_isIf 4 [some (.ref x), l1] (.ref x :: st) σ) ∧
  (∀ (l0 l1 : Option Value) (b0 : Int64) (b1 : Int64) (q : Nat) (σ : dS), den mX7_isIf 4 [l0, l1] [.ref q, .long b0, .long b1] σ = if disO σ q 6 = true then ((dcall mX7_ifs [.ref q] σ).bind fun r => den mX7_isIf 7 [l0, l1] (r.1.toList ++ [.long b0, .long b1]) r.2) else none) ∧
  (∀ (l0 l1 : Option Value) (st : List Value) (σ : dS), den mX7_isIf 7 [l0, l1] st σ = den mX7_isIf 8 [l0, l1] (.int (nI 1) :: st) σ) ∧
  (∀ (l0 l1 : Option Value) (x y : Int32) (st : List Value) (σ : dS), den mX7_isIf 8 [l0, l1] (.int y :: .int x :: st) σ = den mX7_isIf 9 [l0, l1] (.int (x - y) :: st) σ) ∧
  (∀ (l0 l1 : Option Value) (x : Int32) (st : List Value) (σ : dS), den mX7_isIf 9 [l0, l1] (.int x :: st) σ = den mX7_isIf 10 [l0, l1] (.long x.toInt64 :: st) σ) ∧
  (∀ (l0 l1 : Option Value) (a0 : Int64) (a1 : Int64) (a2 : Int64) (σ : dS), den mX7_isIf 10 [l0, l1] [.long a2, .long a1, .long a0] σ = (dcall mX7_in [.long a0, .long a1, .long a2] σ).bind fun r => den mX7_isIf 13 [l0, l1] (r.1.toList ++ []) r.2) ∧
  (∀ (l0 l1 : Option Value) (v : Int32) (σ : dS), den mX7_isIf 13 [l0, l1] [.int v] σ = if v = 0 ∨ v = 1 then some (some (.int v), σ) else none) :=
  ⟨fun l0 x st σ => dn_iload_n eX7_isIf dX7_isIf_0 rfl,
  fun l0 l1 x st σ => dn_i2l eX7_isIf dX7_isIf_1,
  fun l0 l1 st σ => dn_lconst eX7_isIf dX7_isIf_2 kc_lconst_0,
  fun l1 x st σ => dn_aload_n eX7_isIf dX7_isIf_3 rfl,
  fun l0 l1 b0 b1 q σ => rX7_isIf_4 l0 l1 b0 b1 q σ,
  fun l0 l1 st σ => dn_iconst eX7_isIf dX7_isIf_7 kc_iconst_1,
  fun l0 l1 x y st σ => dn_isub eX7_isIf dX7_isIf_8,
  fun l0 l1 x st σ => dn_i2l eX7_isIf dX7_isIf_9,
  fun l0 l1 a0 a1 a2 σ => dn_callS (e := (1, 102, 879)) (as := [.long a0, .long a1, .long a2]) (rest := []) eX7_isIf dX7_isIf_10 (by decide +kernel) (Or.inl rfl) (by decide +kernel) rfl (dcat_le rfl) (dlen_le rfl) rfl,
  fun l0 l1 v σ => dn_zreturn eX7_isIf dX7_isIf_13 rfl⟩
theorem CX7_isGuard (a0 : Nat) (a1 : Int32) (σ : dS) : dcall mX7_isGuard [.ref a0, .int a1] σ = den mX7_isGuard 0 [some (.ref a0), some (.int a1)] [] σ := dcall_den (by decide) rfl
theorem rX7_isGuard_5 (l0 l1 : Option Value) (b0 : Int32) (b1 : Int64) (b2 : Int64) (q : Nat) (σ : dS) : den mX7_isGuard 5 [l0, l1] [.ref q, .int b0, .long b1, .long b2] σ = if disO σ q 6 = true then ((dcall mX7_ifs [.ref q] σ).bind fun r => den mX7_isGuard 8 [l0, l1] (r.1.toList ++ [.int b0, .long b1, .long b2]) r.2) else none := by
  by_cases h : disO σ q 6 = true
  · rw [if_pos h]; exact dn_callV (e := (0, 122, 943)) (as := []) (rest := [.int b0, .long b1, .long b2]) eX7_isGuard dX7_isGuard_5 (by decide +kernel) rfl (by decide +kernel) rfl (dcat_le rfl) (dlen_le rfl) rfl h
  · rw [if_neg h]; exact den_noV (e := (0, 122, 943)) (as := []) (rest := [.int b0, .long b1, .long b2]) eX7_isGuard dX7_isGuard_5 (by decide +kernel) rfl rfl rfl h
set_option maxRecDepth 20000 in
theorem SX7_isGuard : (∀ (l0 : Option Value) (x : Int32) (st : List Value) (σ : dS), den mX7_isGuard 0 [l0, some (.int x)] st σ = den mX7_isGuard 1 [l0, some (.int x)] (.int x :: st) σ) ∧
  (∀ (l0 l1 : Option Value) (x : Int32) (st : List Value) (σ : dS), den mX7_isGuard 1 [l0, l1] (.int x :: st) σ = den mX7_isGuard 2 [l0, l1] (.long x.toInt64 :: st) σ) ∧
  (∀ (l0 l1 : Option Value) (st : List Value) (σ : dS), den mX7_isGuard 2 [l0, l1] st σ = den mX7_isGuard 3 [l0, l1] (.long (lN 0) :: st) σ) ∧
  (∀ (l0 l1 : Option Value) (st : List Value) (σ : dS), den mX7_isGuard 3 [l0, l1] st σ = den mX7_isGuard 4 [l0, l1] (.int (nI 2) :: st) σ) ∧
  (∀ (l1 : Option Value) (x : Nat) (st : List Value) (σ : dS), den mX7_isGuard 4 [some (.ref x), l1] st σ = den mX7_isGuard 5 [some (.ref x), l1] (.ref x :: st) σ) ∧
  (∀ (l0 l1 : Option Value) (b0 : Int32) (b1 : Int64) (b2 : Int64) (q : Nat) (σ : dS), den mX7_isGuard 5 [l0, l1] [.ref q, .int b0, .long b1, .long b2] σ = if disO σ q 6 = true then ((dcall mX7_ifs [.ref q] σ).bind fun r => den mX7_isGuard 8 [l0, l1] (r.1.toList ++ [.int b0, .long b1, .long b2]) r.2) else none) ∧
  (∀ (l0 l1 : Option Value) (x y : Int32) (st : List Value) (σ : dS), den mX7_isGuard 8 [l0, l1] (.int y :: .int x :: st) σ = den mX7_isGuard 9 [l0, l1] (.int (x * y) :: st) σ) ∧
  (∀ (l0 l1 : Option Value) (x : Int32) (st : List Value) (σ : dS), den mX7_isGuard 9 [l0, l1] (.int x :: st) σ = den mX7_isGuard 10 [l0, l1] (.long x.toInt64 :: st) σ) ∧
  (∀ (l0 l1 : Option Value) (a0 : Int64) (a1 : Int64) (a2 : Int64) (σ : dS), den mX7_isGuard 10 [l0, l1] [.long a2, .long a1, .long a0] σ = (dcall mX7_in [.long a0, .long a1, .long a2] σ).bind fun r => den mX7_isGuard 13 [l0, l1] (r.1.toList ++ []) r.2) ∧
  (∀ (l0 l1 : Option Value) (v : Int32) (σ : dS), den mX7_isGuard 13 [l0, l1] [.int v] σ = if v = 0 ∨ v = 1 then some (some (.int v), σ) else none) :=
  ⟨fun l0 x st σ => dn_iload_n eX7_isGuard dX7_isGuard_0 rfl,
  fun l0 l1 x st σ => dn_i2l eX7_isGuard dX7_isGuard_1,
  fun l0 l1 st σ => dn_lconst eX7_isGuard dX7_isGuard_2 kc_lconst_0,
  fun l0 l1 st σ => dn_iconst eX7_isGuard dX7_isGuard_3 kc_iconst_2,
  fun l1 x st σ => dn_aload_n eX7_isGuard dX7_isGuard_4 rfl,
  fun l0 l1 b0 b1 b2 q σ => rX7_isGuard_5 l0 l1 b0 b1 b2 q σ,
  fun l0 l1 x y st σ => dn_imul eX7_isGuard dX7_isGuard_8,
  fun l0 l1 x st σ => dn_i2l eX7_isGuard dX7_isGuard_9,
  fun l0 l1 a0 a1 a2 σ => dn_callS (e := (1, 102, 879)) (as := [.long a0, .long a1, .long a2]) (rest := []) eX7_isGuard dX7_isGuard_10 (by decide +kernel) (Or.inl rfl) (by decide +kernel) rfl (dcat_le rfl) (dlen_le rfl) rfl,
  fun l0 l1 v σ => dn_zreturn eX7_isGuard dX7_isGuard_13 rfl⟩
theorem CX7_isPart (a0 : Int32) (σ : dS) : dcall mX7_isPart [.int a0] σ = den mX7_isPart 0 [some (.int a0)] [] σ := dcall_den (by decide) rfl
set_option maxRecDepth 20000 in
theorem SX7_isPart : (∀ (x : Int32) (st : List Value) (σ : dS), den mX7_isPart 0 [some (.int x)] st σ = den mX7_isPart 1 [some (.int x)] (.int x :: st) σ) ∧
  (∀ (l0 : Option Value) (x : Int32) (st : List Value) (σ : dS), den mX7_isPart 1 [l0] (.int x :: st) σ = den mX7_isPart 2 [l0] (.long x.toInt64 :: st) σ) ∧
  (∀ (l0 : Option Value) (st : List Value) (σ : dS), den mX7_isPart 2 [l0] st σ = den mX7_isPart 3 [l0] (.long (lN 0) :: st) σ) ∧
  (∀ (l0 : Option Value) (st : List Value) (σ : dS), den mX7_isPart 3 [l0] st σ = den mX7_isPart 4 [l0] (.long (lN 1) :: st) σ) ∧
  (∀ (l0 : Option Value) (a0 : Int64) (a1 : Int64) (a2 : Int64) (σ : dS), den mX7_isPart 4 [l0] [.long a2, .long a1, .long a0] σ = (dcall mX7_in [.long a0, .long a1, .long a2] σ).bind fun r => den mX7_isPart 7 [l0] (r.1.toList ++ []) r.2) ∧
  (∀ (l0 : Option Value) (v : Int32) (σ : dS), den mX7_isPart 7 [l0] [.int v] σ = if v = 0 ∨ v = 1 then some (some (.int v), σ) else none) :=
  ⟨fun x st σ => dn_iload_n eX7_isPart dX7_isPart_0 rfl,
  fun l0 x st σ => dn_i2l eX7_isPart dX7_isPart_1,
  fun l0 st σ => dn_lconst eX7_isPart dX7_isPart_2 kc_lconst_0,
  fun l0 st σ => dn_lconst eX7_isPart dX7_isPart_3 kc_lconst_1,
  fun l0 a0 a1 a2 σ => dn_callS (e := (1, 102, 879)) (as := [.long a0, .long a1, .long a2]) (rest := []) eX7_isPart dX7_isPart_4 (by decide +kernel) (Or.inl rfl) (by decide +kernel) rfl (dcat_le rfl) (dlen_le rfl) rfl,
  fun l0 v σ => dn_zreturn eX7_isPart dX7_isPart_7 rfl⟩
theorem CX7_parentOf (a0 : Nat) (a1 : Int32) (σ : dS) : dcall mX7_parentOf [.ref a0, .int a1] σ = den mX7_parentOf 0 [some (.ref a0), some (.int a1)] [] σ := dcall_den (by decide) rfl
theorem rX7_parentOf_16 (l0 l1 : Option Value) (a0 : Int32) (b0 : Nat) (q : Nat) (σ : dS) : den mX7_parentOf 16 [l0, l1] [.int a0, .ref q, .ref b0] σ = if disO σ q 6 = true then ((dcall mX7_codeOf [.ref q, .int a0] σ).bind fun r => den mX7_parentOf 19 [l0, l1] (r.1.toList ++ [.ref b0]) r.2) else none := by
  by_cases h : disO σ q 6 = true
  · rw [if_pos h]; exact dn_callV (e := (0, 123, 966)) (as := [.int a0]) (rest := [.ref b0]) eX7_parentOf dX7_parentOf_16 (by decide +kernel) rfl (by decide +kernel) rfl (dcat_le rfl) (dlen_le rfl) rfl h
  · rw [if_neg h]; exact den_noV (e := (0, 123, 966)) (as := [.int a0]) (rest := [.ref b0]) eX7_parentOf dX7_parentOf_16 (by decide +kernel) rfl rfl rfl h
theorem rX7_parentOf_20 (l0 l1 : Option Value) (a0 : Int32) (a1 : Int32) (q : Nat) (σ : dS) : den mX7_parentOf 20 [l0, l1] [.int a1, .int a0, .ref q] σ = if disO σ q 6 = true then ((dcall mX7_of [.ref q, .int a0, .int a1] σ).bind fun r => den mX7_parentOf 23 [l0, l1] (r.1.toList ++ []) r.2) else none := by
  by_cases h : disO σ q 6 = true
  · rw [if_pos h]; exact dn_callV (e := (0, 120, 947)) (as := [.int a0, .int a1]) (rest := []) eX7_parentOf dX7_parentOf_20 (by decide +kernel) rfl (by decide +kernel) rfl (dcat_le rfl) (dlen_le rfl) rfl h
  · rw [if_neg h]; exact den_noV (e := (0, 120, 947)) (as := [.int a0, .int a1]) (rest := []) eX7_parentOf dX7_parentOf_20 (by decide +kernel) rfl rfl rfl h
set_option maxRecDepth 20000 in
theorem SX7_parentOf : (∀ (l0 : Option Value) (x : Int32) (st : List Value) (σ : dS), den mX7_parentOf 0 [l0, some (.int x)] st σ = den mX7_parentOf 1 [l0, some (.int x)] (.int x :: st) σ) ∧
  (∀ (l0 l1 : Option Value) (x : Int32) (st : List Value) (σ : dS), den mX7_parentOf 1 [l0, l1] (.int x :: st) σ = if x = 0 then den mX7_parentOf 4 [l0, l1] st σ else den mX7_parentOf 9 [l0, l1] st σ) ∧
  (∀ (l0 l1 : Option Value) (st : List Value) (σ : dS), den mX7_parentOf 4 [l0, l1] st σ = den mX7_parentOf 6 [l0, l1] (.int ((-4)) :: st) σ) ∧
  (∀ (l0 l1 : Option Value) (st : List Value) (σ : dS), den mX7_parentOf 6 [l0, l1] st σ = den mX7_parentOf 23 [l0, l1] st σ) ∧
  (∀ (l1 : Option Value) (x : Nat) (st : List Value) (σ : dS), den mX7_parentOf 9 [some (.ref x), l1] st σ = den mX7_parentOf 10 [some (.ref x), l1] (.ref x :: st) σ) ∧
  (∀ (l1 : Option Value) (x : Nat) (st : List Value) (σ : dS), den mX7_parentOf 10 [some (.ref x), l1] st σ = den mX7_parentOf 11 [some (.ref x), l1] (.ref x :: st) σ) ∧
  (∀ (l0 : Option Value) (x : Int32) (st : List Value) (σ : dS), den mX7_parentOf 11 [l0, some (.int x)] st σ = den mX7_parentOf 12 [l0, some (.int x)] (.int x :: st) σ) ∧
  (∀ (l0 l1 : Option Value) (st : List Value) (σ : dS), den mX7_parentOf 12 [l0, l1] st σ = den mX7_parentOf 13 [l0, l1] (.int (nI 1) :: st) σ) ∧
  (∀ (l0 l1 : Option Value) (x y : Int32) (st : List Value) (σ : dS), den mX7_parentOf 13 [l0, l1] (.int y :: .int x :: st) σ = den mX7_parentOf 14 [l0, l1] (.int (x - y) :: st) σ) ∧
  (∀ (l0 l1 : Option Value) (st : List Value) (σ : dS), den mX7_parentOf 14 [l0, l1] st σ = den mX7_parentOf 15 [l0, l1] (.int (nI 2) :: st) σ) ∧
  (∀ (l0 l1 : Option Value) (x y : Int32) (st : List Value) (σ : dS), den mX7_parentOf 15 [l0, l1] (.int y :: .int x :: st) σ = if y = 0 then none else den mX7_parentOf 16 [l0, l1] (.int (x / y) :: st) σ) ∧
  (∀ (l0 l1 : Option Value) (a0 : Int32) (b0 : Nat) (q : Nat) (σ : dS), den mX7_parentOf 16 [l0, l1] [.int a0, .ref q, .ref b0] σ = if disO σ q 6 = true then ((dcall mX7_codeOf [.ref q, .int a0] σ).bind fun r => den mX7_parentOf 19 [l0, l1] (r.1.toList ++ [.ref b0]) r.2) else none) ∧
  (∀ (l0 l1 : Option Value) (st : List Value) (σ : dS), den mX7_parentOf 19 [l0, l1] st σ = den mX7_parentOf 20 [l0, l1] (.int (nI 4) :: st) σ) ∧
  (∀ (l0 l1 : Option Value) (a0 : Int32) (a1 : Int32) (q : Nat) (σ : dS), den mX7_parentOf 20 [l0, l1] [.int a1, .int a0, .ref q] σ = if disO σ q 6 = true then ((dcall mX7_of [.ref q, .int a0, .int a1] σ).bind fun r => den mX7_parentOf 23 [l0, l1] (r.1.toList ++ []) r.2) else none) ∧
  (∀ (l0 l1 : Option Value) (v : Int32) (σ : dS), den mX7_parentOf 23 [l0, l1] [.int v] σ = some (some (.int v), σ)) :=
  ⟨fun l0 x st σ => dn_iload_n eX7_parentOf dX7_parentOf_0 rfl,
  fun l0 l1 x st σ => dn_if_ne eX7_parentOf dX7_parentOf_1 (by decide),
  fun l0 l1 st σ => dn_bipush eX7_parentOf dX7_parentOf_4 kc_bipush_m4,
  fun l0 l1 st σ => dn_goto eX7_parentOf dX7_parentOf_6 (by decide),
  fun l1 x st σ => dn_aload_n eX7_parentOf dX7_parentOf_9 rfl,
  fun l1 x st σ => dn_aload_n eX7_parentOf dX7_parentOf_10 rfl,
  fun l0 x st σ => dn_iload_n eX7_parentOf dX7_parentOf_11 rfl,
  fun l0 l1 st σ => dn_iconst eX7_parentOf dX7_parentOf_12 kc_iconst_1,
  fun l0 l1 x y st σ => dn_isub eX7_parentOf dX7_parentOf_13,
  fun l0 l1 st σ => dn_iconst eX7_parentOf dX7_parentOf_14 kc_iconst_2,
  fun l0 l1 x y st σ => dn_idiv eX7_parentOf dX7_parentOf_15,
  fun l0 l1 a0 b0 q σ => rX7_parentOf_16 l0 l1 a0 b0 q σ,
  fun l0 l1 st σ => dn_iconst eX7_parentOf dX7_parentOf_19 kc_iconst_4,
  fun l0 l1 a0 a1 q σ => rX7_parentOf_20 l0 l1 a0 a1 q σ,
  fun l0 l1 v σ => dn_ireturn eX7_parentOf dX7_parentOf_23 rfl⟩
theorem CX7_depthOf (a0 : Nat) (a1 : Int32) (σ : dS) : dcall mX7_depthOf [.ref a0, .int a1] σ = den mX7_depthOf 0 [some (.ref a0), some (.int a1), none, none] [] σ := dcall_den (by decide) rfl
theorem hX7_depthOf_4 (l0 l1 l2 : Option Value) (x : Int32) (st : List Value) (σ : dS) : den mX7_depthOf 4 [l0, l1, l2, some (.int x)] st σ = den mX7_depthOf 5 [l0, l1, l2, some (.int x)] (.int x :: st) σ := dn_iload_n eX7_depthOf dX7_depthOf_4 rfl
theorem rX7_depthOf_13 (l0 l1 l2 l3 : Option Value) (a0 : Int32) (q : Nat) (σ : dS) : den mX7_depthOf 13 [l0, l1, l2, l3] [.int a0, .ref q] σ = if disO σ q 6 = true then ((dcall mX7_parentOf [.ref q, .int a0] σ).bind fun r => den mX7_depthOf 16 [l0, l1, l2, l3] (r.1.toList ++ []) r.2) else none := by
  by_cases h : disO σ q 6 = true
  · rw [if_pos h]; exact dn_callV (e := (0, 128, 962)) (as := [.int a0]) (rest := []) eX7_depthOf dX7_depthOf_13 (by decide +kernel) rfl (by decide +kernel) rfl (dcat_le rfl) (dlen_le rfl) rfl h
  · rw [if_neg h]; exact den_noV (e := (0, 128, 962)) (as := [.int a0]) (rest := []) eX7_depthOf dX7_depthOf_13 (by decide +kernel) rfl rfl rfl h
set_option maxRecDepth 20000 in
theorem SX7_depthOf : (∀ (l0 l1 l2 l3 : Option Value) (st : List Value) (σ : dS), den mX7_depthOf 0 [l0, l1, l2, l3] st σ = den mX7_depthOf 1 [l0, l1, l2, l3] (.int (nI 0) :: st) σ) ∧
  (∀ (l0 l2 l3 : Option Value) (x : Int32) (y : Int32) (st : List Value) (σ : dS), den mX7_depthOf 1 [l0, some (.int y), l2, l3] (.int x :: st) σ = den mX7_depthOf 2 [l0, some (.int y), some (.int x), l3] st σ) ∧
  (∀ (l0 l2 l3 : Option Value) (x : Int32) (st : List Value) (σ : dS), den mX7_depthOf 2 [l0, some (.int x), l2, l3] st σ = den mX7_depthOf 3 [l0, some (.int x), l2, l3] (.int x :: st) σ) ∧
  (∀ (l0 l1 l3 : Option Value) (x : Int32) (y : Int32) (st : List Value) (σ : dS), den mX7_depthOf 3 [l0, l1, some (.int y), l3] (.int x :: st) σ = den mX7_depthOf 4 [l0, l1, some (.int y), some (.int x)] st σ) ∧
  (∀ (l0 l1 l2 l3 : Option Value) (x : Int32) (st : List Value) (σ : dS), den mX7_depthOf 5 [l0, l1, l2, l3] (.int x :: st) σ = if 0 < x then den mX7_depthOf 8 [l0, l1, l2, l3] st σ else den mX7_depthOf 20 [l0, l1, l2, l3] st σ) ∧
  (∀ (l0 l3 : Option Value) (x : Int32) (y : Int32) (st : List Value) (σ : dS), den mX7_depthOf 8 [l0, some (.int y), some (.int x), l3] st σ = den mX7_depthOf 11 [l0, some (.int y), some (.int (x + nI 1)), l3] st σ) ∧
  (∀ (l1 l2 l3 : Option Value) (x : Nat) (st : List Value) (σ : dS), den mX7_depthOf 11 [some (.ref x), l1, l2, l3] st σ = den mX7_depthOf 12 [some (.ref x), l1, l2, l3] (.ref x :: st) σ) ∧
  (∀ (l0 l1 l2 : Option Value) (x : Int32) (st : List Value) (σ : dS), den mX7_depthOf 12 [l0, l1, l2, some (.int x)] st σ = den mX7_depthOf 13 [l0, l1, l2, some (.int x)] (.int x :: st) σ) ∧
  (∀ (l0 l1 l2 l3 : Option Value) (a0 : Int32) (q : Nat) (σ : dS), den mX7_depthOf 13 [l0, l1, l2, l3] [.int a0, .ref q] σ = if disO σ q 6 = true then ((dcall mX7_parentOf [.ref q, .int a0] σ).bind fun r => den mX7_depthOf 16 [l0, l1, l2, l3] (r.1.toList ++ []) r.2) else none) ∧
  (∀ (l0 l1 l3 : Option Value) (x : Int32) (y : Int32) (st : List Value) (σ : dS), den mX7_depthOf 16 [l0, l1, some (.int y), l3] (.int x :: st) σ = den mX7_depthOf 17 [l0, l1, some (.int y), some (.int x)] st σ) ∧
  (∀ (l0 l1 l2 l3 : Option Value) (st : List Value) (σ : dS), den mX7_depthOf 17 [l0, l1, l2, l3] st σ = den mX7_depthOf 4 [l0, l1, l2, l3] st σ) ∧
  (∀ (l0 l1 l3 : Option Value) (x : Int32) (st : List Value) (σ : dS), den mX7_depthOf 20 [l0, l1, some (.int x), l3] st σ = den mX7_depthOf 21 [l0, l1, some (.int x), l3] (.int x :: st) σ) ∧
  (∀ (l0 l1 l2 l3 : Option Value) (v : Int32) (σ : dS), den mX7_depthOf 21 [l0, l1, l2, l3] [.int v] σ = some (some (.int v), σ)) :=
  ⟨fun l0 l1 l2 l3 st σ => dn_iconst eX7_depthOf dX7_depthOf_0 kc_iconst_0,
  fun l0 l2 l3 x y st σ => dn_istore_n eX7_depthOf dX7_depthOf_1 rfl,
  fun l0 l2 l3 x st σ => dn_iload_n eX7_depthOf dX7_depthOf_2 rfl,
  fun l0 l1 l3 x y st σ => dn_istore_n eX7_depthOf dX7_depthOf_3 rfl,
  fun l0 l1 l2 l3 x st σ => dn_if_le eX7_depthOf dX7_depthOf_5 (by decide),
  fun l0 l3 x y st σ => dn_iinc (v := nI 1) eX7_depthOf dX7_depthOf_8 rfl kc_iconst_1 rfl,
  fun l1 l2 l3 x st σ => dn_aload_n eX7_depthOf dX7_depthOf_11 rfl,
  fun l0 l1 l2 x st σ => dn_iload_n eX7_depthOf dX7_depthOf_12 rfl,
  fun l0 l1 l2 l3 a0 q σ => rX7_depthOf_13 l0 l1 l2 l3 a0 q σ,
  fun l0 l1 l3 x y st σ => dn_istore_n eX7_depthOf dX7_depthOf_16 rfl,
  fun l0 l1 l2 l3 st σ => dn_goto eX7_depthOf dX7_depthOf_17 (by decide),
  fun l0 l1 l3 x st σ => dn_iload_n eX7_depthOf dX7_depthOf_20 rfl,
  fun l0 l1 l2 l3 v σ => dn_ireturn eX7_depthOf dX7_depthOf_21 rfl⟩

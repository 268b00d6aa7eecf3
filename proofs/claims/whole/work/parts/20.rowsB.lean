theorem CX3_makerOf (a0 : Nat) (a1 : Int32) (σ : dS) : dcall mX3_makerOf [.ref a0, .int a1] σ = den mX3_makerOf 0 [some (.ref a0), some (.int a1)] [] σ := dcall_den (by decide) rfl
set_option maxRecDepth 20000 in
theorem SX3_makerOf : (∀ (l0 : Option Value) (x : Int32) (st : List Value) (σ : dS), den mX3_makerOf 0 [l0, some (.int x)] st σ = den mX3_makerOf 1 [l0, some (.int x)] (.int x :: st) σ) ∧
  (∀ (l0 l1 : Option Value) (x : Int32) (st : List Value) (σ : dS), den mX3_makerOf 1 [l0, l1] (.int x :: st) σ = if x = 0 then den mX3_makerOf 4 [l0, l1] st σ else den mX3_makerOf 9 [l0, l1] st σ) ∧
  (∀ (l0 l1 : Option Value) (st : List Value) (σ : dS), den mX3_makerOf 4 [l0, l1] st σ = den mX3_makerOf 6 [l0, l1] (.int ((-4)) :: st) σ) ∧
  (∀ (l0 l1 : Option Value) (st : List Value) (σ : dS), den mX3_makerOf 6 [l0, l1] st σ = den mX3_makerOf 19 [l0, l1] st σ) ∧
  (∀ (l1 : Option Value) (x : Nat) (st : List Value) (σ : dS), den mX3_makerOf 9 [some (.ref x), l1] st σ = den mX3_makerOf 10 [some (.ref x), l1] (.ref x :: st) σ) ∧
  (∀ (l0 l1 : Option Value) (q : Nat) (st : List Value) (σ : dS), den mX3_makerOf 10 [l0, l1] (.ref q :: st) σ = (dget σ q 2 5).bind fun v => den mX3_makerOf 13 [l0, l1] (v :: st) σ) ∧
  (∀ (l0 : Option Value) (x : Int32) (st : List Value) (σ : dS), den mX3_makerOf 13 [l0, some (.int x)] st σ = den mX3_makerOf 14 [l0, some (.int x)] (.int x :: st) σ) ∧
  (∀ (l0 l1 : Option Value) (st : List Value) (σ : dS), den mX3_makerOf 14 [l0, l1] st σ = den mX3_makerOf 15 [l0, l1] (.int (nI 1) :: st) σ) ∧
  (∀ (l0 l1 : Option Value) (x y : Int32) (st : List Value) (σ : dS), den mX3_makerOf 15 [l0, l1] (.int y :: .int x :: st) σ = den mX3_makerOf 16 [l0, l1] (.int (x - y) :: st) σ) ∧
  (∀ (l0 l1 : Option Value) (st : List Value) (σ : dS), den mX3_makerOf 16 [l0, l1] st σ = den mX3_makerOf 17 [l0, l1] (.int (nI 2) :: st) σ) ∧
  (∀ (l0 l1 : Option Value) (x y : Int32) (st : List Value) (σ : dS), den mX3_makerOf 17 [l0, l1] (.int y :: .int x :: st) σ = if y = 0 then none else den mX3_makerOf 18 [l0, l1] (.int (x / y) :: st) σ) ∧
  (∀ (l0 l1 : Option Value) (q : Nat) (i : Int32) (st : List Value) (σ : dS), den mX3_makerOf 18 [l0, l1] (.int i :: .ref q :: st) σ = if q ≤ dN then (dald σ q 0 i).bind (fun v => den mX3_makerOf 19 [l0, l1] (.int v :: st) σ) else none) ∧
  (∀ (l0 l1 : Option Value) (v : Int32) (σ : dS), den mX3_makerOf 19 [l0, l1] [.int v] σ = some (some (.int v), σ)) :=
  ⟨fun l0 x st σ => dn_iload_n eX3_makerOf dX3_makerOf_0 rfl,
  fun l0 l1 x st σ => dn_if_ne eX3_makerOf dX3_makerOf_1 (by decide),
  fun l0 l1 st σ => dn_bipush eX3_makerOf dX3_makerOf_4 kc_bipush_m4,
  fun l0 l1 st σ => dn_goto eX3_makerOf dX3_makerOf_6 (by decide),
  fun l1 x st σ => dn_aload_n eX3_makerOf dX3_makerOf_9 rfl,
  fun l0 l1 q st σ => dn_getfield (f := (2, 5, 105)) eX3_makerOf dX3_makerOf_10 (by decide +kernel),
  fun l0 x st σ => dn_iload_n eX3_makerOf dX3_makerOf_13 rfl,
  fun l0 l1 st σ => dn_iconst eX3_makerOf dX3_makerOf_14 kc_iconst_1,
  fun l0 l1 x y st σ => dn_isub eX3_makerOf dX3_makerOf_15,
  fun l0 l1 st σ => dn_iconst eX3_makerOf dX3_makerOf_16 kc_iconst_2,
  fun l0 l1 x y st σ => dn_idiv eX3_makerOf dX3_makerOf_17,
  fun l0 l1 q i st σ => dn_iaload eX3_makerOf dX3_makerOf_18,
  fun l0 l1 v σ => dn_ireturn eX3_makerOf dX3_makerOf_19 rfl⟩
theorem CX3_parentOf (a0 : Nat) (a1 : Int32) (σ : dS) : dcall mX3_parentOf [.ref a0, .int a1] σ = den mX3_parentOf 0 [some (.ref a0), some (.int a1)] [] σ := dcall_den (by decide) rfl
theorem rX3_parentOf_15 (l0 l1 : Option Value) (a0 : Int32) (b0 : Nat) (q : Nat) (σ : dS) : den mX3_parentOf 15 [l0, l1] [.int a0, .ref q, .ref b0] σ = if disO σ q 2 = true then ((dcall mX3_makerOf [.ref q, .int a0] σ).bind fun r => den mX3_parentOf 18 [l0, l1] (r.1.toList ++ [.ref b0]) r.2) else none := by
  by_cases h : disO σ q 2 = true
  · rw [if_pos h]; exact dn_callV (e := (0, 4, 450)) (as := [.int a0]) (rest := [.ref b0]) eX3_parentOf dX3_parentOf_15 (by decide +kernel) rfl (by decide +kernel) rfl (dcat_le rfl) (dlen_le rfl) rfl h
  · rw [if_neg h]; exact den_noV (e := (0, 4, 450)) (as := [.int a0]) (rest := [.ref b0]) eX3_parentOf dX3_parentOf_15 (by decide +kernel) rfl rfl rfl h
set_option maxRecDepth 20000 in
theorem SX3_parentOf : (∀ (l0 : Option Value) (x : Int32) (st : List Value) (σ : dS), den mX3_parentOf 0 [l0, some (.int x)] st σ = den mX3_parentOf 1 [l0, some (.int x)] (.int x :: st) σ) ∧
  (∀ (l0 l1 : Option Value) (x : Int32) (st : List Value) (σ : dS), den mX3_parentOf 1 [l0, l1] (.int x :: st) σ = if x = 0 then den mX3_parentOf 4 [l0, l1] st σ else den mX3_parentOf 9 [l0, l1] st σ) ∧
  (∀ (l0 l1 : Option Value) (st : List Value) (σ : dS), den mX3_parentOf 4 [l0, l1] st σ = den mX3_parentOf 6 [l0, l1] (.int ((-4)) :: st) σ) ∧
  (∀ (l0 l1 : Option Value) (st : List Value) (σ : dS), den mX3_parentOf 6 [l0, l1] st σ = den mX3_parentOf 19 [l0, l1] st σ) ∧
  (∀ (l1 : Option Value) (x : Nat) (st : List Value) (σ : dS), den mX3_parentOf 9 [some (.ref x), l1] st σ = den mX3_parentOf 10 [some (.ref x), l1] (.ref x :: st) σ) ∧
  (∀ (l0 l1 : Option Value) (q : Nat) (st : List Value) (σ : dS), den mX3_parentOf 10 [l0, l1] (.ref q :: st) σ = (dget σ q 2 4).bind fun v => den mX3_parentOf 13 [l0, l1] (v :: st) σ) ∧
  (∀ (l1 : Option Value) (x : Nat) (st : List Value) (σ : dS), den mX3_parentOf 13 [some (.ref x), l1] st σ = den mX3_parentOf 14 [some (.ref x), l1] (.ref x :: st) σ) ∧
  (∀ (l0 : Option Value) (x : Int32) (st : List Value) (σ : dS), den mX3_parentOf 14 [l0, some (.int x)] st σ = den mX3_parentOf 15 [l0, some (.int x)] (.int x :: st) σ) ∧
  (∀ (l0 l1 : Option Value) (a0 : Int32) (b0 : Nat) (q : Nat) (σ : dS), den mX3_parentOf 15 [l0, l1] [.int a0, .ref q, .ref b0] σ = if disO σ q 2 = true then ((dcall mX3_makerOf [.ref q, .int a0] σ).bind fun r => den mX3_parentOf 18 [l0, l1] (r.1.toList ++ [.ref b0]) r.2) else none) ∧
  (∀ (l0 l1 : Option Value) (q : Nat) (i : Int32) (st : List Value) (σ : dS), den mX3_parentOf 18 [l0, l1] (.int i :: .ref q :: st) σ = if q ≤ dN then (dald σ q 0 i).bind (fun v => den mX3_parentOf 19 [l0, l1] (.int v :: st) σ) else none) ∧
  (∀ (l0 l1 : Option Value) (v : Int32) (σ : dS), den mX3_parentOf 19 [l0, l1] [.int v] σ = some (some (.int v), σ)) :=
  ⟨fun l0 x st σ => dn_iload_n eX3_parentOf dX3_parentOf_0 rfl,
  fun l0 l1 x st σ => dn_if_ne eX3_parentOf dX3_parentOf_1 (by decide),
  fun l0 l1 st σ => dn_bipush eX3_parentOf dX3_parentOf_4 kc_bipush_m4,
  fun l0 l1 st σ => dn_goto eX3_parentOf dX3_parentOf_6 (by decide),
  fun l1 x st σ => dn_aload_n eX3_parentOf dX3_parentOf_9 rfl,
  fun l0 l1 q st σ => dn_getfield (f := (2, 4, 100)) eX3_parentOf dX3_parentOf_10 (by decide +kernel),
  fun l1 x st σ => dn_aload_n eX3_parentOf dX3_parentOf_13 rfl,
  fun l0 x st σ => dn_iload_n eX3_parentOf dX3_parentOf_14 rfl,
  fun l0 l1 a0 b0 q σ => rX3_parentOf_15 l0 l1 a0 b0 q σ,
  fun l0 l1 q i st σ => dn_iaload eX3_parentOf dX3_parentOf_18,
  fun l0 l1 v σ => dn_ireturn eX3_parentOf dX3_parentOf_19 rfl⟩
theorem CX3_readsOf (a0 : Nat) (a1 : Int32) (σ : dS) : dcall mX3_readsOf [.ref a0, .int a1] σ = den mX3_readsOf 0 [some (.ref a0), some (.int a1)] [] σ := dcall_den (by decide) rfl
set_option maxRecDepth 20000 in
theorem SX3_readsOf : (∀ (l1 : Option Value) (x : Nat) (st : List Value) (σ : dS), den mX3_readsOf 0 [some (.ref x), l1] st σ = den mX3_readsOf 1 [some (.ref x), l1] (.ref x :: st) σ) ∧
  (∀ (l0 l1 : Option Value) (q : Nat) (st : List Value) (σ : dS), den mX3_readsOf 1 [l0, l1] (.ref q :: st) σ = (dget σ q 2 0).bind fun v => den mX3_readsOf 4 [l0, l1] (v :: st) σ) ∧
  (∀ (l0 : Option Value) (x : Int32) (st : List Value) (σ : dS), den mX3_readsOf 4 [l0, some (.int x)] st σ = den mX3_readsOf 5 [l0, some (.int x)] (.int x :: st) σ) ∧
  (∀ (l0 l1 : Option Value) (q : Nat) (i : Int32) (st : List Value) (σ : dS), den mX3_readsOf 5 [l0, l1] (.int i :: .ref q :: st) σ = if q ≤ dN then (dald σ q 0 i).bind (fun v => den mX3_readsOf 6 [l0, l1] (.int v :: st) σ) else none) ∧
  (∀ (l0 l1 : Option Value) (x : Int32) (st : List Value) (σ : dS), den mX3_readsOf 6 [l0, l1] (.int x :: st) σ = if x = 0 then den mX3_readsOf 9 [l0, l1] st σ else den mX3_readsOf 11 [l0, l1] st σ) ∧
  (∀ (l0 l1 : Option Value) (st : List Value) (σ : dS), den mX3_readsOf 9 [l0, l1] st σ = den mX3_readsOf 10 [l0, l1] (.int (nI 0) :: st) σ) ∧
  (∀ (l0 l1 : Option Value) (v : Int32) (σ : dS), den mX3_readsOf 10 [l0, l1] [.int v] σ = some (some (.int v), σ)) ∧
  (∀ (l1 : Option Value) (x : Nat) (st : List Value) (σ : dS), den mX3_readsOf 11 [some (.ref x), l1] st σ = den mX3_readsOf 12 [some (.ref x), l1] (.ref x :: st) σ) ∧
  (∀ (l0 l1 : Option Value) (q : Nat) (st : List Value) (σ : dS), den mX3_readsOf 12 [l0, l1] (.ref q :: st) σ = (dget σ q 2 0).bind fun v => den mX3_readsOf 15 [l0, l1] (v :: st) σ) ∧
  (∀ (l0 : Option Value) (x : Int32) (st : List Value) (σ : dS), den mX3_readsOf 15 [l0, some (.int x)] st σ = den mX3_readsOf 16 [l0, some (.int x)] (.int x :: st) σ) ∧
  (∀ (l0 l1 : Option Value) (q : Nat) (i : Int32) (st : List Value) (σ : dS), den mX3_readsOf 16 [l0, l1] (.int i :: .ref q :: st) σ = if q ≤ dN then (dald σ q 0 i).bind (fun v => den mX3_readsOf 17 [l0, l1] (.int v :: st) σ) else none) ∧
  (∀ (l0 l1 : Option Value) (st : List Value) (σ : dS), den mX3_readsOf 17 [l0, l1] st σ = den mX3_readsOf 18 [l0, l1] (.int (nI 5) :: st) σ) ∧
  (∀ (l0 l1 : Option Value) (x y : Int32) (st : List Value) (σ : dS), den mX3_readsOf 18 [l0, l1] (.int y :: .int x :: st) σ = if x = y then den mX3_readsOf 21 [l0, l1] st σ else den mX3_readsOf 32 [l0, l1] st σ) ∧
  (∀ (l0 l1 : Option Value) (st : List Value) (σ : dS), den mX3_readsOf 21 [l0, l1] st σ = den mX3_readsOf 22 [l0, l1] (.int (nI 1) :: st) σ) ∧
  (∀ (l1 : Option Value) (x : Nat) (st : List Value) (σ : dS), den mX3_readsOf 22 [some (.ref x), l1] st σ = den mX3_readsOf 23 [some (.ref x), l1] (.ref x :: st) σ) ∧
  (∀ (l0 l1 : Option Value) (q : Nat) (st : List Value) (σ : dS), den mX3_readsOf 23 [l0, l1] (.ref q :: st) σ = (dget σ q 2 1).bind fun v => den mX3_readsOf 26 [l0, l1] (v :: st) σ) ∧
  (∀ (l0 : Option Value) (x : Int32) (st : List Value) (σ : dS), den mX3_readsOf 26 [l0, some (.int x)] st σ = den mX3_readsOf 27 [l0, some (.int x)] (.int x :: st) σ) ∧
  (∀ (l0 l1 : Option Value) (q : Nat) (i : Int32) (st : List Value) (σ : dS), den mX3_readsOf 27 [l0, l1] (.int i :: .ref q :: st) σ = if q ≤ dN then (dald σ q 0 i).bind (fun v => den mX3_readsOf 28 [l0, l1] (.int v :: st) σ) else none) ∧
  (∀ (l0 l1 : Option Value) (x y : Int32) (st : List Value) (σ : dS), den mX3_readsOf 28 [l0, l1] (.int y :: .int x :: st) σ = den mX3_readsOf 29 [l0, l1] (.int (x <<< (y &&& 31)) :: st) σ) ∧
  (∀ (l0 l1 : Option Value) (st : List Value) (σ : dS), den mX3_readsOf 29 [l0, l1] st σ = den mX3_readsOf 49 [l0, l1] st σ) ∧
  (∀ (l0 l1 : Option Value) (st : List Value) (σ : dS), den mX3_readsOf 32 [l0, l1] st σ = den mX3_readsOf 33 [l0, l1] (.int (nI 1) :: st) σ) ∧
  (∀ (l1 : Option Value) (x : Nat) (st : List Value) (σ : dS), den mX3_readsOf 33 [some (.ref x), l1] st σ = den mX3_readsOf 34 [some (.ref x), l1] (.ref x :: st) σ) ∧
  (∀ (l0 l1 : Option Value) (q : Nat) (st : List Value) (σ : dS), den mX3_readsOf 34 [l0, l1] (.ref q :: st) σ = (dget σ q 2 2).bind fun v => den mX3_readsOf 37 [l0, l1] (v :: st) σ) ∧
  (∀ (l0 : Option Value) (x : Int32) (st : List Value) (σ : dS), den mX3_readsOf 37 [l0, some (.int x)] st σ = den mX3_readsOf 38 [l0, some (.int x)] (.int x :: st) σ) ∧
  (∀ (l0 l1 : Option Value) (q : Nat) (i : Int32) (st : List Value) (σ : dS), den mX3_readsOf 38 [l0, l1] (.int i :: .ref q :: st) σ = if q ≤ dN then (dald σ q 0 i).bind (fun v => den mX3_readsOf 39 [l0, l1] (.int v :: st) σ) else none) ∧
  (∀ (l0 l1 : Option Value) (x y : Int32) (st : List Value) (σ : dS), den mX3_readsOf 39 [l0, l1] (.int y :: .int x :: st) σ = den mX3_readsOf 40 [l0, l1] (.int (x <<< (y &&& 31)) :: st) σ) ∧
  (∀ (l0 l1 : Option Value) (st : List Value) (σ : dS), den mX3_readsOf 40 [l0, l1] st σ = den mX3_readsOf 41 [l0, l1] (.int (nI 1) :: st) σ) ∧
  (∀ (l1 : Option Value) (x : Nat) (st : List Value) (σ : dS), den mX3_readsOf 41 [some (.ref x), l1] st σ = den mX3_readsOf 42 [some (.ref x), l1] (.ref x :: st) σ) ∧
  (∀ (l0 l1 : Option Value) (q : Nat) (st : List Value) (σ : dS), den mX3_readsOf 42 [l0, l1] (.ref q :: st) σ = (dget σ q 2 3).bind fun v => den mX3_readsOf 45 [l0, l1] (v :: st) σ) ∧
  (∀ (l0 : Option Value) (x : Int32) (st : List Value) (σ : dS), den mX3_readsOf 45 [l0, some (.int x)] st σ = den mX3_readsOf 46 [l0, some (.int x)] (.int x :: st) σ) ∧
  (∀ (l0 l1 : Option Value) (q : Nat) (i : Int32) (st : List Value) (σ : dS), den mX3_readsOf 46 [l0, l1] (.int i :: .ref q :: st) σ = if q ≤ dN then (dald σ q 0 i).bind (fun v => den mX3_readsOf 47 [l0, l1] (.int v :: st) σ) else none) ∧
  (∀ (l0 l1 : Option Value) (x y : Int32) (st : List Value) (σ : dS), den mX3_readsOf 47 [l0, l1] (.int y :: .int x :: st) σ = den mX3_readsOf 48 [l0, l1] (.int (x <<< (y &&& 31)) :: st) σ) ∧
  (∀ (l0 l1 : Option Value) (x y : Int32) (st : List Value) (σ : dS), den mX3_readsOf 48 [l0, l1] (.int y :: .int x :: st) σ = den mX3_readsOf 49 [l0, l1] (.int (x ||| y) :: st) σ) ∧
  (∀ (l0 l1 : Option Value) (v : Int32) (σ : dS), den mX3_readsOf 49 [l0, l1] [.int v] σ = some (some (.int v), σ)) :=
  ⟨fun l1 x st σ => dn_aload_n eX3_readsOf dX3_readsOf_0 rfl,
  fun l0 l1 q st σ => dn_getfield (f := (2, 0, 84)) eX3_readsOf dX3_readsOf_1 (by decide +kernel),
  fun l0 x st σ => dn_iload_n eX3_readsOf dX3_readsOf_4 rfl,
  fun l0 l1 q i st σ => dn_iaload eX3_readsOf dX3_readsOf_5,
  fun l0 l1 x st σ => dn_if_ne eX3_readsOf dX3_readsOf_6 (by decide),
  fun l0 l1 st σ => dn_iconst eX3_readsOf dX3_readsOf_9 kc_iconst_0,
  fun l0 l1 v σ => dn_ireturn eX3_readsOf dX3_readsOf_10 rfl,
  fun l1 x st σ => dn_aload_n eX3_readsOf dX3_readsOf_11 rfl,
  fun l0 l1 q st σ => dn_getfield (f := (2, 0, 84)) eX3_readsOf dX3_readsOf_12 (by decide +kernel),
  fun l0 x st σ => dn_iload_n eX3_readsOf dX3_readsOf_15 rfl,
  fun l0 l1 q i st σ => dn_iaload eX3_readsOf dX3_readsOf_16,
  fun l0 l1 st σ => dn_iconst eX3_readsOf dX3_readsOf_17 kc_iconst_5,
  fun l0 l1 x y st σ => dn_icmp_ne eX3_readsOf dX3_readsOf_18 (by decide),
  fun l0 l1 st σ => dn_iconst eX3_readsOf dX3_readsOf_21 kc_iconst_1,
  fun l1 x st σ => dn_aload_n eX3_readsOf dX3_readsOf_22 rfl,
  fun l0 l1 q st σ => dn_getfield (f := (2, 1, 89)) eX3_readsOf dX3_readsOf_23 (by decide +kernel),
  fun l0 x st σ => dn_iload_n eX3_readsOf dX3_readsOf_26 rfl,
  fun l0 l1 q i st σ => dn_iaload eX3_readsOf dX3_readsOf_27,
  fun l0 l1 x y st σ => dn_ishl eX3_readsOf dX3_readsOf_28,
  fun l0 l1 st σ => dn_goto eX3_readsOf dX3_readsOf_29 (by decide),
  fun l0 l1 st σ => dn_iconst eX3_readsOf dX3_readsOf_32 kc_iconst_1,
  fun l1 x st σ => dn_aload_n eX3_readsOf dX3_readsOf_33 rfl,
  fun l0 l1 q st σ => dn_getfield (f := (2, 2, 93)) eX3_readsOf dX3_readsOf_34 (by decide +kernel),
  fun l0 x st σ => dn_iload_n eX3_readsOf dX3_readsOf_37 rfl,
  fun l0 l1 q i st σ => dn_iaload eX3_readsOf dX3_readsOf_38,
  fun l0 l1 x y st σ => dn_ishl eX3_readsOf dX3_readsOf_39,
  fun l0 l1 st σ => dn_iconst eX3_readsOf dX3_readsOf_40 kc_iconst_1,
  fun l1 x st σ => dn_aload_n eX3_readsOf dX3_readsOf_41 rfl,
  fun l0 l1 q st σ => dn_getfield (f := (2, 3, 97)) eX3_readsOf dX3_readsOf_42 (by decide +kernel),
  fun l0 x st σ => dn_iload_n eX3_readsOf dX3_readsOf_45 rfl,
  fun l0 l1 q i st σ => dn_iaload eX3_readsOf dX3_readsOf_46,
  fun l0 l1 x y st σ => dn_ishl eX3_readsOf dX3_readsOf_47,
  fun l0 l1 x y st σ => dn_ior eX3_readsOf dX3_readsOf_48,
  fun l0 l1 v σ => dn_ireturn eX3_readsOf dX3_readsOf_49 rfl⟩
theorem CX3_clear (a0 : Nat) (σ : dS) : dcall mX3_clear [.ref a0] σ = den mX3_clear 0 [some (.ref a0)] [] σ := dcall_den (by decide) rfl
set_option maxRecDepth 20000 in
theorem SX3_clear : (∀ (x : Nat) (st : List Value) (σ : dS), den mX3_clear 0 [some (.ref x)] st σ = den mX3_clear 1 [some (.ref x)] (.ref x :: st) σ) ∧
  (∀ (l0 : Option Value) (st : List Value) (σ : dS), den mX3_clear 1 [l0] st σ = den mX3_clear 2 [l0] (.int (nI 0) :: st) σ) ∧
  (∀ (l0 : Option Value) (x : Int32) (q : Nat) (st : List Value) (σ : dS), den mX3_clear 2 [l0] (.int x :: .ref q :: st) σ = (dput σ q 2 7 (.int x)).bind fun τ => den mX3_clear 5 [l0] st τ) ∧
  (∀ (x : Nat) (st : List Value) (σ : dS), den mX3_clear 5 [some (.ref x)] st σ = den mX3_clear 6 [some (.ref x)] (.ref x :: st) σ) ∧
  (∀ (l0 : Option Value) (st : List Value) (σ : dS), den mX3_clear 6 [l0] st σ = den mX3_clear 7 [l0] (.int (nI 0) :: st) σ) ∧
  (∀ (l0 : Option Value) (x : Int32) (q : Nat) (st : List Value) (σ : dS), den mX3_clear 7 [l0] (.int x :: .ref q :: st) σ = (dput σ q 2 8 (.int x)).bind fun τ => den mX3_clear 10 [l0] st τ) ∧
  (∀ (x : Nat) (st : List Value) (σ : dS), den mX3_clear 10 [some (.ref x)] st σ = den mX3_clear 11 [some (.ref x)] (.ref x :: st) σ) ∧
  (∀ (l0 : Option Value) (st : List Value) (σ : dS), den mX3_clear 11 [l0] st σ = den mX3_clear 14 [l0] (.int (nI 255) :: st) σ) ∧
  (∀ (l0 : Option Value) (x : Int32) (q : Nat) (st : List Value) (σ : dS), den mX3_clear 14 [l0] (.int x :: .ref q :: st) σ = (dput σ q 2 9 (.int x)).bind fun τ => den mX3_clear 17 [l0] st τ) ∧
  (∀ (l0 : Option Value) (σ : dS), den mX3_clear 17 [l0] [] σ = some (none, σ)) :=
  ⟨fun x st σ => dn_aload_n eX3_clear dX3_clear_0 rfl,
  fun l0 st σ => dn_iconst eX3_clear dX3_clear_1 kc_iconst_0,
  fun l0 x q st σ => dn_putfield (f := (2, 7, 109)) (ty := .int) eX3_clear dX3_clear_2 (by decide +kernel) (by decide +kernel) rfl,
  fun x st σ => dn_aload_n eX3_clear dX3_clear_5 rfl,
  fun l0 st σ => dn_iconst eX3_clear dX3_clear_6 kc_iconst_0,
  fun l0 x q st σ => dn_putfield (f := (2, 8, 115)) (ty := .int) eX3_clear dX3_clear_7 (by decide +kernel) (by decide +kernel) rfl,
  fun x st σ => dn_aload_n eX3_clear dX3_clear_10 rfl,
  fun l0 st σ => dn_sipush eX3_clear dX3_clear_11 kc_sipush_255,
  fun l0 x q st σ => dn_putfield (f := (2, 9, 119)) (ty := .int) eX3_clear dX3_clear_14 (by decide +kernel) (by decide +kernel) rfl,
  fun l0 σ => dn_return eX3_clear dX3_clear_17 rfl⟩
theorem CX3_becomeLike (a0 : Nat) (a1 : Nat) (σ : dS) : dcall mX3_becomeLike [.ref a0, .ref a1] σ = den mX3_becomeLike 0 [some (.ref a0), some (.ref a1)] [] σ := dcall_den (by decide) rfl
set_option maxRecDepth 20000 in
theorem SX3_becomeLike_0 : (∀ (l0 : Option Value) (x : Nat) (st : List Value) (σ : dS), den mX3_becomeLike 0 [l0, some (.ref x)] st σ = den mX3_becomeLike 1 [l0, some (.ref x)] (.ref x :: st) σ) ∧
  (∀ (l0 l1 : Option Value) (q : Nat) (st : List Value) (σ : dS), den mX3_becomeLike 1 [l0, l1] (.ref q :: st) σ = (dget σ q 2 0).bind fun v => den mX3_becomeLike 4 [l0, l1] (v :: st) σ) ∧
  (∀ (l0 l1 : Option Value) (st : List Value) (σ : dS), den mX3_becomeLike 4 [l0, l1] st σ = den mX3_becomeLike 5 [l0, l1] (.int (nI 0) :: st) σ) ∧
  (∀ (l1 : Option Value) (x : Nat) (st : List Value) (σ : dS), den mX3_becomeLike 5 [some (.ref x), l1] st σ = den mX3_becomeLike 6 [some (.ref x), l1] (.ref x :: st) σ) ∧
  (∀ (l0 l1 : Option Value) (q : Nat) (st : List Value) (σ : dS), den mX3_becomeLike 6 [l0, l1] (.ref q :: st) σ = (dget σ q 2 0).bind fun v => den mX3_becomeLike 9 [l0, l1] (v :: st) σ) ∧
  (∀ (l0 l1 : Option Value) (st : List Value) (σ : dS), den mX3_becomeLike 9 [l0, l1] st σ = den mX3_becomeLike 10 [l0, l1] (.int (nI 0) :: st) σ) ∧
  (∀ (l0 l1 : Option Value) (st : List Value) (σ : dS), den mX3_becomeLike 10 [l0, l1] st σ = den mX3_becomeLike 12 [l0, l1] (.int (nI 24) :: st) σ) ∧
  (∀ (l0 l1 : Option Value) (q0 q1 : Nat) (sp dp n : Int32) (σ : dS), den mX3_becomeLike 12 [l0, l1] [.int n, .int dp, .ref q1, .int sp, .ref q0] σ = (dcopy σ q0 sp q1 dp n).bind fun τ => den mX3_becomeLike 15 [l0, l1] [] τ) ∧
  (∀ (l0 : Option Value) (x : Nat) (st : List Value) (σ : dS), den mX3_becomeLike 15 [l0, some (.ref x)] st σ = den mX3_becomeLike 16 [l0, some (.ref x)] (.ref x :: st) σ) ∧
  (∀ (l0 l1 : Option Value) (q : Nat) (st : List Value) (σ : dS), den mX3_becomeLike 16 [l0, l1] (.ref q :: st) σ = (dget σ q 2 1).bind fun v => den mX3_becomeLike 19 [l0, l1] (v :: st) σ) ∧
  (∀ (l0 l1 : Option Value) (st : List Value) (σ : dS), den mX3_becomeLike 19 [l0, l1] st σ = den mX3_becomeLike 20 [l0, l1] (.int (nI 0) :: st) σ) ∧
  (∀ (l1 : Option Value) (x : Nat) (st : List Value) (σ : dS), den mX3_becomeLike 20 [some (.ref x), l1] st σ = den mX3_becomeLike 21 [some (.ref x), l1] (.ref x :: st) σ) ∧
  (∀ (l0 l1 : Option Value) (q : Nat) (st : List Value) (σ : dS), den mX3_becomeLike 21 [l0, l1] (.ref q :: st) σ = (dget σ q 2 1).bind fun v => den mX3_becomeLike 24 [l0, l1] (v :: st) σ) ∧
  (∀ (l0 l1 : Option Value) (st : List Value) (σ : dS), den mX3_becomeLike 24 [l0, l1] st σ = den mX3_becomeLike 25 [l0, l1] (.int (nI 0) :: st) σ) ∧
  (∀ (l0 l1 : Option Value) (st : List Value) (σ : dS), den mX3_becomeLike 25 [l0, l1] st σ = den mX3_becomeLike 27 [l0, l1] (.int (nI 24) :: st) σ) ∧
  (∀ (l0 l1 : Option Value) (q0 q1 : Nat) (sp dp n : Int32) (σ : dS), den mX3_becomeLike 27 [l0, l1] [.int n, .int dp, .ref q1, .int sp, .ref q0] σ = (dcopy σ q0 sp q1 dp n).bind fun τ => den mX3_becomeLike 30 [l0, l1] [] τ) ∧
  (∀ (l0 : Option Value) (x : Nat) (st : List Value) (σ : dS), den mX3_becomeLike 30 [l0, some (.ref x)] st σ = den mX3_becomeLike 31 [l0, some (.ref x)] (.ref x :: st) σ) ∧
  (∀ (l0 l1 : Option Value) (q : Nat) (st : List Value) (σ : dS), den mX3_becomeLike 31 [l0, l1] (.ref q :: st) σ = (dget σ q 2 2).bind fun v => den mX3_becomeLike 34 [l0, l1] (v :: st) σ) ∧
  (∀ (l0 l1 : Option Value) (st : List Value) (σ : dS), den mX3_becomeLike 34 [l0, l1] st σ = den mX3_becomeLike 35 [l0, l1] (.int (nI 0) :: st) σ) ∧
  (∀ (l1 : Option Value) (x : Nat) (st : List Value) (σ : dS), den mX3_becomeLike 35 [some (.ref x), l1] st σ = den mX3_becomeLike 36 [some (.ref x), l1] (.ref x :: st) σ) ∧
  (∀ (l0 l1 : Option Value) (q : Nat) (st : List Value) (σ : dS), den mX3_becomeLike 36 [l0, l1] (.ref q :: st) σ = (dget σ q 2 2).bind fun v => den mX3_becomeLike 39 [l0, l1] (v :: st) σ) ∧
  (∀ (l0 l1 : Option Value) (st : List Value) (σ : dS), den mX3_becomeLike 39 [l0, l1] st σ = den mX3_becomeLike 40 [l0, l1] (.int (nI 0) :: st) σ) ∧
  (∀ (l0 l1 : Option Value) (st : List Value) (σ : dS), den mX3_becomeLike 40 [l0, l1] st σ = den mX3_becomeLike 42 [l0, l1] (.int (nI 24) :: st) σ) ∧
  (∀ (l0 l1 : Option Value) (q0 q1 : Nat) (sp dp n : Int32) (σ : dS), den mX3_becomeLike 42 [l0, l1] [.int n, .int dp, .ref q1, .int sp, .ref q0] σ = (dcopy σ q0 sp q1 dp n).bind fun τ => den mX3_becomeLike 45 [l0, l1] [] τ) ∧
  (∀ (l0 : Option Value) (x : Nat) (st : List Value) (σ : dS), den mX3_becomeLike 45 [l0, some (.ref x)] st σ = den mX3_becomeLike 46 [l0, some (.ref x)] (.ref x :: st) σ) ∧
  (∀ (l0 l1 : Option Value) (q : Nat) (st : List Value) (σ : dS), den mX3_becomeLike 46 [l0, l1] (.ref q :: st) σ = (dget σ q 2 3).bind fun v => den mX3_becomeLike 49 [l0, l1] (v :: st) σ) ∧
  (∀ (l0 l1 : Option Value) (st : List Value) (σ : dS), den mX3_becomeLike 49 [l0, l1] st σ = den mX3_becomeLike 50 [l0, l1] (.int (nI 0) :: st) σ) ∧
  (∀ (l1 : Option Value) (x : Nat) (st : List Value) (σ : dS), den mX3_becomeLike 50 [some (.ref x), l1] st σ = den mX3_becomeLike 51 [some (.ref x), l1] (.ref x :: st) σ) ∧
  (∀ (l0 l1 : Option Value) (q : Nat) (st : List Value) (σ : dS), den mX3_becomeLike 51 [l0, l1] (.ref q :: st) σ = (dget σ q 2 3).bind fun v => den mX3_becomeLike 54 [l0, l1] (v :: st) σ) ∧
  (∀ (l0 l1 : Option Value) (st : List Value) (σ : dS), den mX3_becomeLike 54 [l0, l1] st σ = den mX3_becomeLike 55 [l0, l1] (.int (nI 0) :: st) σ) ∧
  (∀ (l0 l1 : Option Value) (st : List Value) (σ : dS), den mX3_becomeLike 55 [l0, l1] st σ = den mX3_becomeLike 57 [l0, l1] (.int (nI 24) :: st) σ) ∧
  (∀ (l0 l1 : Option Value) (q0 q1 : Nat) (sp dp n : Int32) (σ : dS), den mX3_becomeLike 57 [l0, l1] [.int n, .int dp, .ref q1, .int sp, .ref q0] σ = (dcopy σ q0 sp q1 dp n).bind fun τ => den mX3_becomeLike 60 [l0, l1] [] τ) ∧
  (∀ (l0 : Option Value) (x : Nat) (st : List Value) (σ : dS), den mX3_becomeLike 60 [l0, some (.ref x)] st σ = den mX3_becomeLike 61 [l0, some (.ref x)] (.ref x :: st) σ) ∧
  (∀ (l0 l1 : Option Value) (q : Nat) (st : List Value) (σ : dS), den mX3_becomeLike 61 [l0, l1] (.ref q :: st) σ = (dget σ q 2 4).bind fun v => den mX3_becomeLike 64 [l0, l1] (v :: st) σ) ∧
  (∀ (l0 l1 : Option Value) (st : List Value) (σ : dS), den mX3_becomeLike 64 [l0, l1] st σ = den mX3_becomeLike 65 [l0, l1] (.int (nI 0) :: st) σ) ∧
  (∀ (l1 : Option Value) (x : Nat) (st : List Value) (σ : dS), den mX3_becomeLike 65 [some (.ref x), l1] st σ = den mX3_becomeLike 66 [some (.ref x), l1] (.ref x :: st) σ) ∧
  (∀ (l0 l1 : Option Value) (q : Nat) (st : List Value) (σ : dS), den mX3_becomeLike 66 [l0, l1] (.ref q :: st) σ = (dget σ q 2 4).bind fun v => den mX3_becomeLike 69 [l0, l1] (v :: st) σ) ∧
  (∀ (l0 l1 : Option Value) (st : List Value) (σ : dS), den mX3_becomeLike 69 [l0, l1] st σ = den mX3_becomeLike 70 [l0, l1] (.int (nI 0) :: st) σ) ∧
  (∀ (l0 l1 : Option Value) (st : List Value) (σ : dS), den mX3_becomeLike 70 [l0, l1] st σ = den mX3_becomeLike 72 [l0, l1] (.int (nI 24) :: st) σ) ∧
  (∀ (l0 l1 : Option Value) (q0 q1 : Nat) (sp dp n : Int32) (σ : dS), den mX3_becomeLike 72 [l0, l1] [.int n, .int dp, .ref q1, .int sp, .ref q0] σ = (dcopy σ q0 sp q1 dp n).bind fun τ => den mX3_becomeLike 75 [l0, l1] [] τ) :=
  ⟨fun l0 x st σ => dn_aload_n eX3_becomeLike dX3_becomeLike_0 rfl,
  fun l0 l1 q st σ => dn_getfield (f := (2, 0, 84)) eX3_becomeLike dX3_becomeLike_1 (by decide +kernel),
  fun l0 l1 st σ => dn_iconst eX3_becomeLike dX3_becomeLike_4 kc_iconst_0,
  fun l1 x st σ => dn_aload_n eX3_becomeLike dX3_becomeLike_5 rfl,
  fun l0 l1 q st σ => dn_getfield (f := (2, 0, 84)) eX3_becomeLike dX3_becomeLike_6 (by decide +kernel),
  fun l0 l1 st σ => dn_iconst eX3_becomeLike dX3_becomeLike_9 kc_iconst_0,
  fun l0 l1 st σ => dn_bipush eX3_becomeLike dX3_becomeLike_10 kc_bipush_24,
  fun l0 l1 q0 q1 sp dp n σ => dn_copy (e := (4, 0, 423)) eX3_becomeLike dX3_becomeLike_12 (by decide +kernel) rfl (by decide) (by decide),
  fun l0 x st σ => dn_aload_n eX3_becomeLike dX3_becomeLike_15 rfl,
  fun l0 l1 q st σ => dn_getfield (f := (2, 1, 89)) eX3_becomeLike dX3_becomeLike_16 (by decide +kernel),
  fun l0 l1 st σ => dn_iconst eX3_becomeLike dX3_becomeLike_19 kc_iconst_0,
  fun l1 x st σ => dn_aload_n eX3_becomeLike dX3_becomeLike_20 rfl,
  fun l0 l1 q st σ => dn_getfield (f := (2, 1, 89)) eX3_becomeLike dX3_becomeLike_21 (by decide +kernel),
  fun l0 l1 st σ => dn_iconst eX3_becomeLike dX3_becomeLike_24 kc_iconst_0,
  fun l0 l1 st σ => dn_bipush eX3_becomeLike dX3_becomeLike_25 kc_bipush_24,
  fun l0 l1 q0 q1 sp dp n σ => dn_copy (e := (4, 0, 423)) eX3_becomeLike dX3_becomeLike_27 (by decide +kernel) rfl (by decide) (by decide),
  fun l0 x st σ => dn_aload_n eX3_becomeLike dX3_becomeLike_30 rfl,
  fun l0 l1 q st σ => dn_getfield (f := (2, 2, 93)) eX3_becomeLike dX3_becomeLike_31 (by decide +kernel),
  fun l0 l1 st σ => dn_iconst eX3_becomeLike dX3_becomeLike_34 kc_iconst_0,
  fun l1 x st σ => dn_aload_n eX3_becomeLike dX3_becomeLike_35 rfl,
  fun l0 l1 q st σ => dn_getfield (f := (2, 2, 93)) eX3_becomeLike dX3_becomeLike_36 (by decide +kernel),
  fun l0 l1 st σ => dn_iconst eX3_becomeLike dX3_becomeLike_39 kc_iconst_0,
  fun l0 l1 st σ => dn_bipush eX3_becomeLike dX3_becomeLike_40 kc_bipush_24,
  fun l0 l1 q0 q1 sp dp n σ => dn_copy (e := (4, 0, 423)) eX3_becomeLike dX3_becomeLike_42 (by decide +kernel) rfl (by decide) (by decide),
  fun l0 x st σ => dn_aload_n eX3_becomeLike dX3_becomeLike_45 rfl,
  fun l0 l1 q st σ => dn_getfield (f := (2, 3, 97)) eX3_becomeLike dX3_becomeLike_46 (by decide +kernel),
  fun l0 l1 st σ => dn_iconst eX3_becomeLike dX3_becomeLike_49 kc_iconst_0,
  fun l1 x st σ => dn_aload_n eX3_becomeLike dX3_becomeLike_50 rfl,
  fun l0 l1 q st σ => dn_getfield (f := (2, 3, 97)) eX3_becomeLike dX3_becomeLike_51 (by decide +kernel),
  fun l0 l1 st σ => dn_iconst eX3_becomeLike dX3_becomeLike_54 kc_iconst_0,
  fun l0 l1 st σ => dn_bipush eX3_becomeLike dX3_becomeLike_55 kc_bipush_24,
  fun l0 l1 q0 q1 sp dp n σ => dn_copy (e := (4, 0, 423)) eX3_becomeLike dX3_becomeLike_57 (by decide +kernel) rfl (by decide) (by decide),
  fun l0 x st σ => dn_aload_n eX3_becomeLike dX3_becomeLike_60 rfl,
  fun l0 l1 q st σ => dn_getfield (f := (2, 4, 100)) eX3_becomeLike dX3_becomeLike_61 (by decide +kernel),
  fun l0 l1 st σ => dn_iconst eX3_becomeLike dX3_becomeLike_64 kc_iconst_0,
  fun l1 x st σ => dn_aload_n eX3_becomeLike dX3_becomeLike_65 rfl,
  fun l0 l1 q st σ => dn_getfield (f := (2, 4, 100)) eX3_becomeLike dX3_becomeLike_66 (by decide +kernel),
  fun l0 l1 st σ => dn_iconst eX3_becomeLike dX3_becomeLike_69 kc_iconst_0,
  fun l0 l1 st σ => dn_bipush eX3_becomeLike dX3_becomeLike_70 kc_bipush_24,
  fun l0 l1 q0 q1 sp dp n σ => dn_copy (e := (4, 0, 423)) eX3_becomeLike dX3_becomeLike_72 (by decide +kernel) rfl (by decide) (by decide)⟩
set_option maxRecDepth 20000 in
theorem SX3_becomeLike_1 : (∀ (l0 : Option Value) (x : Nat) (st : List Value) (σ : dS), den mX3_becomeLike 75 [l0, some (.ref x)] st σ = den mX3_becomeLike 76 [l0, some (.ref x)] (.ref x :: st) σ) ∧
  (∀ (l0 l1 : Option Value) (q : Nat) (st : List Value) (σ : dS), den mX3_becomeLike 76 [l0, l1] (.ref q :: st) σ = (dget σ q 2 5).bind fun v => den mX3_becomeLike 79 [l0, l1] (v :: st) σ) ∧
  (∀ (l0 l1 : Option Value) (st : List Value) (σ : dS), den mX3_becomeLike 79 [l0, l1] st σ = den mX3_becomeLike 80 [l0, l1] (.int (nI 0) :: st) σ) ∧
  (∀ (l1 : Option Value) (x : Nat) (st : List Value) (σ : dS), den mX3_becomeLike 80 [some (.ref x), l1] st σ = den mX3_becomeLike 81 [some (.ref x), l1] (.ref x :: st) σ) ∧
  (∀ (l0 l1 : Option Value) (q : Nat) (st : List Value) (σ : dS), den mX3_becomeLike 81 [l0, l1] (.ref q :: st) σ = (dget σ q 2 5).bind fun v => den mX3_becomeLike 84 [l0, l1] (v :: st) σ) ∧
  (∀ (l0 l1 : Option Value) (st : List Value) (σ : dS), den mX3_becomeLike 84 [l0, l1] st σ = den mX3_becomeLike 85 [l0, l1] (.int (nI 0) :: st) σ) ∧
  (∀ (l0 l1 : Option Value) (st : List Value) (σ : dS), den mX3_becomeLike 85 [l0, l1] st σ = den mX3_becomeLike 87 [l0, l1] (.int (nI 6) :: st) σ) ∧
  (∀ (l0 l1 : Option Value) (q0 q1 : Nat) (sp dp n : Int32) (σ : dS), den mX3_becomeLike 87 [l0, l1] [.int n, .int dp, .ref q1, .int sp, .ref q0] σ = (dcopy σ q0 sp q1 dp n).bind fun τ => den mX3_becomeLike 90 [l0, l1] [] τ) ∧
  (∀ (l0 : Option Value) (x : Nat) (st : List Value) (σ : dS), den mX3_becomeLike 90 [l0, some (.ref x)] st σ = den mX3_becomeLike 91 [l0, some (.ref x)] (.ref x :: st) σ) ∧
  (∀ (l0 l1 : Option Value) (q : Nat) (st : List Value) (σ : dS), den mX3_becomeLike 91 [l0, l1] (.ref q :: st) σ = (dget σ q 2 6).bind fun v => den mX3_becomeLike 94 [l0, l1] (v :: st) σ) ∧
  (∀ (l0 l1 : Option Value) (st : List Value) (σ : dS), den mX3_becomeLike 94 [l0, l1] st σ = den mX3_becomeLike 95 [l0, l1] (.int (nI 0) :: st) σ) ∧
  (∀ (l1 : Option Value) (x : Nat) (st : List Value) (σ : dS), den mX3_becomeLike 95 [some (.ref x), l1] st σ = den mX3_becomeLike 96 [some (.ref x), l1] (.ref x :: st) σ) ∧
  (∀ (l0 l1 : Option Value) (q : Nat) (st : List Value) (σ : dS), den mX3_becomeLike 96 [l0, l1] (.ref q :: st) σ = (dget σ q 2 6).bind fun v => den mX3_becomeLike 99 [l0, l1] (v :: st) σ) ∧
  (∀ (l0 l1 : Option Value) (st : List Value) (σ : dS), den mX3_becomeLike 99 [l0, l1] st σ = den mX3_becomeLike 100 [l0, l1] (.int (nI 0) :: st) σ) ∧
  (∀ (l0 l1 : Option Value) (st : List Value) (σ : dS), den mX3_becomeLike 100 [l0, l1] st σ = den mX3_becomeLike 102 [l0, l1] (.int (nI 6) :: st) σ) ∧
  (∀ (l0 l1 : Option Value) (q0 q1 : Nat) (sp dp n : Int32) (σ : dS), den mX3_becomeLike 102 [l0, l1] [.int n, .int dp, .ref q1, .int sp, .ref q0] σ = (dcopy σ q0 sp q1 dp n).bind fun τ => den mX3_becomeLike 105 [l0, l1] [] τ) ∧
  (∀ (l1 : Option Value) (x : Nat) (st : List Value) (σ : dS), den mX3_becomeLike 105 [some (.ref x), l1] st σ = den mX3_becomeLike 106 [some (.ref x), l1] (.ref x :: st) σ) ∧
  (∀ (l0 : Option Value) (x : Nat) (st : List Value) (σ : dS), den mX3_becomeLike 106 [l0, some (.ref x)] st σ = den mX3_becomeLike 107 [l0, some (.ref x)] (.ref x :: st) σ) ∧
  (∀ (l0 l1 : Option Value) (q : Nat) (st : List Value) (σ : dS), den mX3_becomeLike 107 [l0, l1] (.ref q :: st) σ = (dget σ q 2 7).bind fun v => den mX3_becomeLike 110 [l0, l1] (v :: st) σ) ∧
  (∀ (l0 l1 : Option Value) (x : Int32) (q : Nat) (st : List Value) (σ : dS), den mX3_becomeLike 110 [l0, l1] (.int x :: .ref q :: st) σ = (dput σ q 2 7 (.int x)).bind fun τ => den mX3_becomeLike 113 [l0, l1] st τ) ∧
  (∀ (l1 : Option Value) (x : Nat) (st : List Value) (σ : dS), den mX3_becomeLike 113 [some (.ref x), l1] st σ = den mX3_becomeLike 114 [some (.ref x), l1] (.ref x :: st) σ) ∧
  (∀ (l0 : Option Value) (x : Nat) (st : List Value) (σ : dS), den mX3_becomeLike 114 [l0, some (.ref x)] st σ = den mX3_becomeLike 115 [l0, some (.ref x)] (.ref x :: st) σ) ∧
  (∀ (l0 l1 : Option Value) (q : Nat) (st : List Value) (σ : dS), den mX3_becomeLike 115 [l0, l1] (.ref q :: st) σ = (dget σ q 2 8).bind fun v => den mX3_becomeLike 118 [l0, l1] (v :: st) σ) ∧
  (∀ (l0 l1 : Option Value) (x : Int32) (q : Nat) (st : List Value) (σ : dS), den mX3_becomeLike 118 [l0, l1] (.int x :: .ref q :: st) σ = (dput σ q 2 8 (.int x)).bind fun τ => den mX3_becomeLike 121 [l0, l1] st τ) ∧
  (∀ (l1 : Option Value) (x : Nat) (st : List Value) (σ : dS), den mX3_becomeLike 121 [some (.ref x), l1] st σ = den mX3_becomeLike 122 [some (.ref x), l1] (.ref x :: st) σ) ∧
  (∀ (l0 : Option Value) (x : Nat) (st : List Value) (σ : dS), den mX3_becomeLike 122 [l0, some (.ref x)] st σ = den mX3_becomeLike 123 [l0, some (.ref x)] (.ref x :: st) σ) ∧
  (∀ (l0 l1 : Option Value) (q : Nat) (st : List Value) (σ : dS), den mX3_becomeLike 123 [l0, l1] (.ref q :: st) σ = (dget σ q 2 9).bind fun v => den mX3_becomeLike 126 [l0, l1] (v :: st) σ) ∧
  (∀ (l0 l1 : Option Value) (x : Int32) (q : Nat) (st : List Value) (σ : dS), den mX3_becomeLike 126 [l0, l1] (.int x :: .ref q :: st) σ = (dput σ q 2 9 (.int x)).bind fun τ => den mX3_becomeLike 129 [l0, l1] st τ) ∧
  (∀ (l0 l1 : Option Value) (σ : dS), den mX3_becomeLike 129 [l0, l1] [] σ = some (none, σ)) :=
  ⟨fun l0 x st σ => dn_aload_n eX3_becomeLike dX3_becomeLike_75 rfl,
  fun l0 l1 q st σ => dn_getfield (f := (2, 5, 105)) eX3_becomeLike dX3_becomeLike_76 (by decide +kernel),
  fun l0 l1 st σ => dn_iconst eX3_becomeLike dX3_becomeLike_79 kc_iconst_0,
  fun l1 x st σ => dn_aload_n eX3_becomeLike dX3_becomeLike_80 rfl,
  fun l0 l1 q st σ => dn_getfield (f := (2, 5, 105)) eX3_becomeLike dX3_becomeLike_81 (by decide +kernel),
  fun l0 l1 st σ => dn_iconst eX3_becomeLike dX3_becomeLike_84 kc_iconst_0,
  fun l0 l1 st σ => dn_bipush eX3_becomeLike dX3_becomeLike_85 kc_bipush_6,
  fun l0 l1 q0 q1 sp dp n σ => dn_copy (e := (4, 0, 423)) eX3_becomeLike dX3_becomeLike_87 (by decide +kernel) rfl (by decide) (by decide),
  fun l0 x st σ => dn_aload_n eX3_becomeLike dX3_becomeLike_90 rfl,
  fun l0 l1 q st σ => dn_getfield (f := (2, 6, 106)) eX3_becomeLike dX3_becomeLike_91 (by decide +kernel),
  fun l0 l1 st σ => dn_iconst eX3_becomeLike dX3_becomeLike_94 kc_iconst_0,
  fun l1 x st σ => dn_aload_n eX3_becomeLike dX3_becomeLike_95 rfl,
  fun l0 l1 q st σ => dn_getfield (f := (2, 6, 106)) eX3_becomeLike dX3_becomeLike_96 (by decide +kernel),
  fun l0 l1 st σ => dn_iconst eX3_becomeLike dX3_becomeLike_99 kc_iconst_0,
  fun l0 l1 st σ => dn_bipush eX3_becomeLike dX3_becomeLike_100 kc_bipush_6,
  fun l0 l1 q0 q1 sp dp n σ => dn_copy (e := (4, 0, 423)) eX3_becomeLike dX3_becomeLike_102 (by decide +kernel) rfl (by decide) (by decide),
  fun l1 x st σ => dn_aload_n eX3_becomeLike dX3_becomeLike_105 rfl,
  fun l0 x st σ => dn_aload_n eX3_becomeLike dX3_becomeLike_106 rfl,
  fun l0 l1 q st σ => dn_getfield (f := (2, 7, 109)) eX3_becomeLike dX3_becomeLike_107 (by decide +kernel),
  fun l0 l1 x q st σ => dn_putfield (f := (2, 7, 109)) (ty := .int) eX3_becomeLike dX3_becomeLike_110 (by decide +kernel) (by decide +kernel) rfl,
  fun l1 x st σ => dn_aload_n eX3_becomeLike dX3_becomeLike_113 rfl,
  fun l0 x st σ => dn_aload_n eX3_becomeLike dX3_becomeLike_114 rfl,
  fun l0 l1 q st σ => dn_getfield (f := (2, 8, 115)) eX3_becomeLike dX3_becomeLike_115 (by decide +kernel),
  fun l0 l1 x q st σ => dn_putfield (f := (2, 8, 115)) (ty := .int) eX3_becomeLike dX3_becomeLike_118 (by decide +kernel) (by decide +kernel) rfl,
  fun l1 x st σ => dn_aload_n eX3_becomeLike dX3_becomeLike_121 rfl,
  fun l0 x st σ => dn_aload_n eX3_becomeLike dX3_becomeLike_122 rfl,
  fun l0 l1 q st σ => dn_getfield (f := (2, 9, 119)) eX3_becomeLike dX3_becomeLike_123 (by decide +kernel),
  fun l0 l1 x q st σ => dn_putfield (f := (2, 9, 119)) (ty := .int) eX3_becomeLike dX3_becomeLike_126 (by decide +kernel) (by decide +kernel) rfl,
  fun l0 l1 σ => dn_return eX3_becomeLike dX3_becomeLike_129 rfl⟩
theorem CX3_hasRoomFor (a0 : Nat) (a1 : Int32) (σ : dS) : dcall mX3_hasRoomFor [.ref a0, .int a1] σ = den mX3_hasRoomFor 0 [some (.ref a0), some (.int a1)] [] σ := dcall_den (by decide) rfl
set_option maxRecDepth 20000 in
theorem SX3_hasRoomFor : (∀ (l1 : Option Value) (x : Nat) (st : List Value) (σ : dS), den mX3_hasRoomFor 0 [some (.ref x), l1] st σ = den mX3_hasRoomFor 1 [some (.ref x), l1] (.ref x :: st) σ) ∧
  (∀ (l0 l1 : Option Value) (q : Nat) (st : List Value) (σ : dS), den mX3_hasRoomFor 1 [l0, l1] (.ref q :: st) σ = (dget σ q 2 7).bind fun v => den mX3_hasRoomFor 4 [l0, l1] (v :: st) σ) ∧
  (∀ (l0 l1 : Option Value) (st : List Value) (σ : dS), den mX3_hasRoomFor 4 [l0, l1] st σ = den mX3_hasRoomFor 6 [l0, l1] (.int (nI 24) :: st) σ) ∧
  (∀ (l0 l1 : Option Value) (x y : Int32) (st : List Value) (σ : dS), den mX3_hasRoomFor 6 [l0, l1] (.int y :: .int x :: st) σ = if x < y then den mX3_hasRoomFor 9 [l0, l1] st σ else den mX3_hasRoomFor 27 [l0, l1] st σ) ∧
  (∀ (l0 : Option Value) (x : Int32) (st : List Value) (σ : dS), den mX3_hasRoomFor 9 [l0, some (.int x)] st σ = den mX3_hasRoomFor 10 [l0, some (.int x)] (.int x :: st) σ) ∧
  (∀ (l0 l1 : Option Value) (st : List Value) (σ : dS), den mX3_hasRoomFor 10 [l0, l1] st σ = den mX3_hasRoomFor 11 [l0, l1] (.int (nI 5) :: st) σ) ∧
  (∀ (l0 l1 : Option Value) (x y : Int32) (st : List Value) (σ : dS), den mX3_hasRoomFor 11 [l0, l1] (.int y :: .int x :: st) σ = if x = y then den mX3_hasRoomFor 14 [l0, l1] st σ else den mX3_hasRoomFor 23 [l0, l1] st σ) ∧
  (∀ (l1 : Option Value) (x : Nat) (st : List Value) (σ : dS), den mX3_hasRoomFor 14 [some (.ref x), l1] st σ = den mX3_hasRoomFor 15 [some (.ref x), l1] (.ref x :: st) σ) ∧
  (∀ (l0 l1 : Option Value) (q : Nat) (st : List Value) (σ : dS), den mX3_hasRoomFor 15 [l0, l1] (.ref q :: st) σ = (dget σ q 2 8).bind fun v => den mX3_hasRoomFor 18 [l0, l1] (v :: st) σ) ∧
  (∀ (l0 l1 : Option Value) (st : List Value) (σ : dS), den mX3_hasRoomFor 18 [l0, l1] st σ = den mX3_hasRoomFor 20 [l0, l1] (.int (nI 6) :: st) σ) ∧
  (∀ (l0 l1 : Option Value) (x y : Int32) (st : List Value) (σ : dS), den mX3_hasRoomFor 20 [l0, l1] (.int y :: .int x :: st) σ = if x < y then den mX3_hasRoomFor 23 [l0, l1] st σ else den mX3_hasRoomFor 27 [l0, l1] st σ) ∧
  (∀ (l0 l1 : Option Value) (st : List Value) (σ : dS), den mX3_hasRoomFor 23 [l0, l1] st σ = den mX3_hasRoomFor 24 [l0, l1] (.int (nI 1) :: st) σ) ∧
  (∀ (l0 l1 : Option Value) (st : List Value) (σ : dS), den mX3_hasRoomFor 24 [l0, l1] st σ = den mX3_hasRoomFor 28 [l0, l1] st σ) ∧
  (∀ (l0 l1 : Option Value) (st : List Value) (σ : dS), den mX3_hasRoomFor 27 [l0, l1] st σ = den mX3_hasRoomFor 28 [l0, l1] (.int (nI 0) :: st) σ) ∧
  (∀ (l0 l1 : Option Value) (v : Int32) (σ : dS), den mX3_hasRoomFor 28 [l0, l1] [.int v] σ = if v = 0 ∨ v = 1 then some (some (.int v), σ) else none) :=
  ⟨fun l1 x st σ => dn_aload_n eX3_hasRoomFor dX3_hasRoomFor_0 rfl,
  fun l0 l1 q st σ => dn_getfield (f := (2, 7, 109)) eX3_hasRoomFor dX3_hasRoomFor_1 (by decide +kernel),
  fun l0 l1 st σ => dn_bipush eX3_hasRoomFor dX3_hasRoomFor_4 kc_bipush_24,
  fun l0 l1 x y st σ => dn_icmp_ge eX3_hasRoomFor dX3_hasRoomFor_6 (by decide),
  fun l0 x st σ => dn_iload_n eX3_hasRoomFor dX3_hasRoomFor_9 rfl,
  fun l0 l1 st σ => dn_iconst eX3_hasRoomFor dX3_hasRoomFor_10 kc_iconst_5,
  fun l0 l1 x y st σ => dn_icmp_ne eX3_hasRoomFor dX3_hasRoomFor_11 (by decide),
  fun l1 x st σ => dn_aload_n eX3_hasRoomFor dX3_hasRoomFor_14 rfl,
  fun l0 l1 q st σ => dn_getfield (f := (2, 8, 115)) eX3_hasRoomFor dX3_hasRoomFor_15 (by decide +kernel),
  fun l0 l1 st σ => dn_bipush eX3_hasRoomFor dX3_hasRoomFor_18 kc_bipush_6,
  fun l0 l1 x y st σ => dn_icmp_ge eX3_hasRoomFor dX3_hasRoomFor_20 (by decide),
  fun l0 l1 st σ => dn_iconst eX3_hasRoomFor dX3_hasRoomFor_23 kc_iconst_1,
  fun l0 l1 st σ => dn_goto eX3_hasRoomFor dX3_hasRoomFor_24 (by decide),
  fun l0 l1 st σ => dn_iconst eX3_hasRoomFor dX3_hasRoomFor_27 kc_iconst_0,
  fun l0 l1 v σ => dn_zreturn eX3_hasRoomFor dX3_hasRoomFor_28 rfl⟩
theorem CX3_append (a0 : Nat) (a1 : Int32) (a2 : Int32) (a3 : Int32) (a4 : Int32) (a5 : Int32) (σ : dS) : dcall mX3_append [.ref a0, .int a1, .int a2, .int a3, .int a4, .int a5] σ = den mX3_append 0 [some (.ref a0), some (.int a1), some (.int a2), some (.int a3), some (.int a4), some (.int a5)] [] σ := dcall_den (by decide) rfl
set_option maxRecDepth 20000 in
theorem SX3_append_0 : (∀ (l1 l2 l3 l4 l5 : Option Value) (x : Nat) (st : List Value) (σ : dS), den mX3_append 0 [some (.ref x), l1, l2, l3, l4, l5] st σ = den mX3_append 1 [some (.ref x), l1, l2, l3, l4, l5] (.ref x :: st) σ) ∧
  (∀ (l0 l1 l2 l3 l4 l5 : Option Value) (q : Nat) (st : List Value) (σ : dS), den mX3_append 1 [l0, l1, l2, l3, l4, l5] (.ref q :: st) σ = (dget σ q 2 0).bind fun v => den mX3_append 4 [l0, l1, l2, l3, l4, l5] (v :: st) σ) ∧
  (∀ (l1 l2 l3 l4 l5 : Option Value) (x : Nat) (st : List Value) (σ : dS), den mX3_append 4 [some (.ref x), l1, l2, l3, l4, l5] st σ = den mX3_append 5 [some (.ref x), l1, l2, l3, l4, l5] (.ref x :: st) σ) ∧
  (∀ (l0 l1 l2 l3 l4 l5 : Option Value) (q : Nat) (st : List Value) (σ : dS), den mX3_append 5 [l0, l1, l2, l3, l4, l5] (.ref q :: st) σ = (dget σ q 2 7).bind fun v => den mX3_append 8 [l0, l1, l2, l3, l4, l5] (v :: st) σ) ∧
  (∀ (l0 l2 l3 l4 l5 : Option Value) (x : Int32) (st : List Value) (σ : dS), den mX3_append 8 [l0, some (.int x), l2, l3, l4, l5] st σ = den mX3_append 9 [l0, some (.int x), l2, l3, l4, l5] (.int x :: st) σ) ∧
  (∀ (l0 l1 l2 l3 l4 l5 : Option Value) (q : Nat) (i x : Int32) (st : List Value) (σ : dS), den mX3_append 9 [l0, l1, l2, l3, l4, l5] (.int x :: .int i :: .ref q :: st) σ = (dast σ q 0 i x).bind fun τ => den mX3_append 10 [l0, l1, l2, l3, l4, l5] st τ) ∧
  (∀ (l1 l2 l3 l4 l5 : Option Value) (x : Nat) (st : List Value) (σ : dS), den mX3_append 10 [some (.ref x), l1, l2, l3, l4, l5] st σ = den mX3_append 11 [some (.ref x), l1, l2, l3, l4, l5] (.ref x :: st) σ) ∧
  (∀ (l0 l1 l2 l3 l4 l5 : Option Value) (q : Nat) (st : List Value) (σ : dS), den mX3_append 11 [l0, l1, l2, l3, l4, l5] (.ref q :: st) σ = (dget σ q 2 1).bind fun v => den mX3_append 14 [l0, l1, l2, l3, l4, l5] (v :: st) σ) ∧
  (∀ (l1 l2 l3 l4 l5 : Option Value) (x : Nat) (st : List Value) (σ : dS), den mX3_append 14 [some (.ref x), l1, l2, l3, l4, l5] st σ = den mX3_append 15 [some (.ref x), l1, l2, l3, l4, l5] (.ref x :: st) σ) ∧
  (∀ (l0 l1 l2 l3 l4 l5 : Option Value) (q : Nat) (st : List Value) (σ : dS), den mX3_append 15 [l0, l1, l2, l3, l4, l5] (.ref q :: st) σ = (dget σ q 2 7).bind fun v => den mX3_append 18 [l0, l1, l2, l3, l4, l5] (v :: st) σ) ∧
  (∀ (l0 l1 l3 l4 l5 : Option Value) (x : Int32) (st : List Value) (σ : dS), den mX3_append 18 [l0, l1, some (.int x), l3, l4, l5] st σ = den mX3_append 19 [l0, l1, some (.int x), l3, l4, l5] (.int x :: st) σ) ∧
  (∀ (l0 l1 l2 l3 l4 l5 : Option Value) (q : Nat) (i x : Int32) (st : List Value) (σ : dS), den mX3_append 19 [l0, l1, l2, l3, l4, l5] (.int x :: .int i :: .ref q :: st) σ = (dast σ q 0 i x).bind fun τ => den mX3_append 20 [l0, l1, l2, l3, l4, l5] st τ) ∧
  (∀ (l1 l2 l3 l4 l5 : Option Value) (x : Nat) (st : List Value) (σ : dS), den mX3_append 20 [some (.ref x), l1, l2, l3, l4, l5] st σ = den mX3_append 21 [some (.ref x), l1, l2, l3, l4, l5] (.ref x :: st) σ) ∧
  (∀ (l0 l1 l2 l3 l4 l5 : Option Value) (q : Nat) (st : List Value) (σ : dS), den mX3_append 21 [l0, l1, l2, l3, l4, l5] (.ref q :: st) σ = (dget σ q 2 2).bind fun v => den mX3_append 24 [l0, l1, l2, l3, l4, l5] (v :: st) σ) ∧
  (∀ (l1 l2 l3 l4 l5 : Option Value) (x : Nat) (st : List Value) (σ : dS), den mX3_append 24 [some (.ref x), l1, l2, l3, l4, l5] st σ = den mX3_append 25 [some (.ref x), l1, l2, l3, l4, l5] (.ref x :: st) σ) ∧
  (∀ (l0 l1 l2 l3 l4 l5 : Option Value) (q : Nat) (st : List Value) (σ : dS), den mX3_append 25 [l0, l1, l2, l3, l4, l5] (.ref q :: st) σ = (dget σ q 2 7).bind fun v => den mX3_append 28 [l0, l1, l2, l3, l4, l5] (v :: st) σ) ∧
  (∀ (l0 l1 l2 l4 l5 : Option Value) (x : Int32) (st : List Value) (σ : dS), den mX3_append 28 [l0, l1, l2, some (.int x), l4, l5] st σ = den mX3_append 29 [l0, l1, l2, some (.int x), l4, l5] (.int x :: st) σ) ∧
  (∀ (l0 l1 l2 l3 l4 l5 : Option Value) (q : Nat) (i x : Int32) (st : List Value) (σ : dS), den mX3_append 29 [l0, l1, l2, l3, l4, l5] (.int x :: .int i :: .ref q :: st) σ = (dast σ q 0 i x).bind fun τ => den mX3_append 30 [l0, l1, l2, l3, l4, l5] st τ) ∧
  (∀ (l1 l2 l3 l4 l5 : Option Value) (x : Nat) (st : List Value) (σ : dS), den mX3_append 30 [some (.ref x), l1, l2, l3, l4, l5] st σ = den mX3_append 31 [some (.ref x), l1, l2, l3, l4, l5] (.ref x :: st) σ) ∧
  (∀ (l0 l1 l2 l3 l4 l5 : Option Value) (q : Nat) (st : List Value) (σ : dS), den mX3_append 31 [l0, l1, l2, l3, l4, l5] (.ref q :: st) σ = (dget σ q 2 3).bind fun v => den mX3_append 34 [l0, l1, l2, l3, l4, l5] (v :: st) σ) ∧
  (∀ (l1 l2 l3 l4 l5 : Option Value) (x : Nat) (st : List Value) (σ : dS), den mX3_append 34 [some (.ref x), l1, l2, l3, l4, l5] st σ = den mX3_append 35 [some (.ref x), l1, l2, l3, l4, l5] (.ref x :: st) σ) ∧
  (∀ (l0 l1 l2 l3 l4 l5 : Option Value) (q : Nat) (st : List Value) (σ : dS), den mX3_append 35 [l0, l1, l2, l3, l4, l5] (.ref q :: st) σ = (dget σ q 2 7).bind fun v => den mX3_append 38 [l0, l1, l2, l3, l4, l5] (v :: st) σ) ∧
  (∀ (l0 l1 l2 l3 l5 : Option Value) (x : Int32) (st : List Value) (σ : dS), den mX3_append 38 [l0, l1, l2, l3, some (.int x), l5] st σ = den mX3_append 40 [l0, l1, l2, l3, some (.int x), l5] (.int x :: st) σ) ∧
  (∀ (l0 l1 l2 l3 l4 l5 : Option Value) (q : Nat) (i x : Int32) (st : List Value) (σ : dS), den mX3_append 40 [l0, l1, l2, l3, l4, l5] (.int x :: .int i :: .ref q :: st) σ = (dast σ q 0 i x).bind fun τ => den mX3_append 41 [l0, l1, l2, l3, l4, l5] st τ) ∧
  (∀ (l1 l2 l3 l4 l5 : Option Value) (x : Nat) (st : List Value) (σ : dS), den mX3_append 41 [some (.ref x), l1, l2, l3, l4, l5] st σ = den mX3_append 42 [some (.ref x), l1, l2, l3, l4, l5] (.ref x :: st) σ) ∧
  (∀ (l0 l1 l2 l3 l4 l5 : Option Value) (q : Nat) (st : List Value) (σ : dS), den mX3_append 42 [l0, l1, l2, l3, l4, l5] (.ref q :: st) σ = (dget σ q 2 4).bind fun v => den mX3_append 45 [l0, l1, l2, l3, l4, l5] (v :: st) σ) ∧
  (∀ (l1 l2 l3 l4 l5 : Option Value) (x : Nat) (st : List Value) (σ : dS), den mX3_append 45 [some (.ref x), l1, l2, l3, l4, l5] st σ = den mX3_append 46 [some (.ref x), l1, l2, l3, l4, l5] (.ref x :: st) σ) ∧
  (∀ (l0 l1 l2 l3 l4 l5 : Option Value) (q : Nat) (st : List Value) (σ : dS), den mX3_append 46 [l0, l1, l2, l3, l4, l5] (.ref q :: st) σ = (dget σ q 2 7).bind fun v => den mX3_append 49 [l0, l1, l2, l3, l4, l5] (v :: st) σ) ∧
  (∀ (l0 l1 l2 l3 l4 : Option Value) (x : Int32) (st : List Value) (σ : dS), den mX3_append 49 [l0, l1, l2, l3, l4, some (.int x)] st σ = den mX3_append 51 [l0, l1, l2, l3, l4, some (.int x)] (.int x :: st) σ) ∧
  (∀ (l0 l1 l2 l3 l4 l5 : Option Value) (q : Nat) (i x : Int32) (st : List Value) (σ : dS), den mX3_append 51 [l0, l1, l2, l3, l4, l5] (.int x :: .int i :: .ref q :: st) σ = (dast σ q 0 i x).bind fun τ => den mX3_append 52 [l0, l1, l2, l3, l4, l5] st τ) ∧
  (∀ (l0 l2 l3 l4 l5 : Option Value) (x : Int32) (st : List Value) (σ : dS), den mX3_append 52 [l0, some (.int x), l2, l3, l4, l5] st σ = den mX3_append 53 [l0, some (.int x), l2, l3, l4, l5] (.int x :: st) σ) ∧
  (∀ (l0 l1 l2 l3 l4 l5 : Option Value) (st : List Value) (σ : dS), den mX3_append 53 [l0, l1, l2, l3, l4, l5] st σ = den mX3_append 54 [l0, l1, l2, l3, l4, l5] (.int (nI 5) :: st) σ) ∧
  (∀ (l0 l1 l2 l3 l4 l5 : Option Value) (x y : Int32) (st : List Value) (σ : dS), den mX3_append 54 [l0, l1, l2, l3, l4, l5] (.int y :: .int x :: st) σ = if x = y then den mX3_append 57 [l0, l1, l2, l3, l4, l5] st σ else den mX3_append 90 [l0, l1, l2, l3, l4, l5] st σ) ∧
  (∀ (l1 l2 l3 l4 l5 : Option Value) (x : Nat) (st : List Value) (σ : dS), den mX3_append 57 [some (.ref x), l1, l2, l3, l4, l5] st σ = den mX3_append 58 [some (.ref x), l1, l2, l3, l4, l5] (.ref x :: st) σ) ∧
  (∀ (l0 l1 l2 l3 l4 l5 : Option Value) (q : Nat) (st : List Value) (σ : dS), den mX3_append 58 [l0, l1, l2, l3, l4, l5] (.ref q :: st) σ = (dget σ q 2 5).bind fun v => den mX3_append 61 [l0, l1, l2, l3, l4, l5] (v :: st) σ) ∧
  (∀ (l1 l2 l3 l4 l5 : Option Value) (x : Nat) (st : List Value) (σ : dS), den mX3_append 61 [some (.ref x), l1, l2, l3, l4, l5] st σ = den mX3_append 62 [some (.ref x), l1, l2, l3, l4, l5] (.ref x :: st) σ) ∧
  (∀ (l0 l1 l2 l3 l4 l5 : Option Value) (q : Nat) (st : List Value) (σ : dS), den mX3_append 62 [l0, l1, l2, l3, l4, l5] (.ref q :: st) σ = (dget σ q 2 8).bind fun v => den mX3_append 65 [l0, l1, l2, l3, l4, l5] (v :: st) σ) ∧
  (∀ (l1 l2 l3 l4 l5 : Option Value) (x : Nat) (st : List Value) (σ : dS), den mX3_append 65 [some (.ref x), l1, l2, l3, l4, l5] st σ = den mX3_append 66 [some (.ref x), l1, l2, l3, l4, l5] (.ref x :: st) σ) ∧
  (∀ (l0 l1 l2 l3 l4 l5 : Option Value) (q : Nat) (st : List Value) (σ : dS), den mX3_append 66 [l0, l1, l2, l3, l4, l5] (.ref q :: st) σ = (dget σ q 2 7).bind fun v => den mX3_append 69 [l0, l1, l2, l3, l4, l5] (v :: st) σ) ∧
  (∀ (l0 l1 l2 l3 l4 l5 : Option Value) (q : Nat) (i x : Int32) (st : List Value) (σ : dS), den mX3_append 69 [l0, l1, l2, l3, l4, l5] (.int x :: .int i :: .ref q :: st) σ = (dast σ q 0 i x).bind fun τ => den mX3_append 70 [l0, l1, l2, l3, l4, l5] st τ) :=
  ⟨fun l1 l2 l3 l4 l5 x st σ => dn_aload_n eX3_append dX3_append_0 rfl,
  fun l0 l1 l2 l3 l4 l5 q st σ => dn_getfield (f := (2, 0, 84)) eX3_append dX3_append_1 (by decide +kernel),
  fun l1 l2 l3 l4 l5 x st σ => dn_aload_n eX3_append dX3_append_4 rfl,
  fun l0 l1 l2 l3 l4 l5 q st σ => dn_getfield (f := (2, 7, 109)) eX3_append dX3_append_5 (by decide +kernel),
  fun l0 l2 l3 l4 l5 x st σ => dn_iload_n eX3_append dX3_append_8 rfl,
  fun l0 l1 l2 l3 l4 l5 q i x st σ => dn_iastore eX3_append dX3_append_9,
  fun l1 l2 l3 l4 l5 x st σ => dn_aload_n eX3_append dX3_append_10 rfl,
  fun l0 l1 l2 l3 l4 l5 q st σ => dn_getfield (f := (2, 1, 89)) eX3_append dX3_append_11 (by decide +kernel),
  fun l1 l2 l3 l4 l5 x st σ => dn_aload_n eX3_append dX3_append_14 rfl,
  fun l0 l1 l2 l3 l4 l5 q st σ => dn_getfield (f := (2, 7, 109)) eX3_append dX3_append_15 (by decide +kernel),
  fun l0 l1 l3 l4 l5 x st σ => dn_iload_n eX3_append dX3_append_18 rfl,
  fun l0 l1 l2 l3 l4 l5 q i x st σ => dn_iastore eX3_append dX3_append_19,
  fun l1 l2 l3 l4 l5 x st σ => dn_aload_n eX3_append dX3_append_20 rfl,
  fun l0 l1 l2 l3 l4 l5 q st σ => dn_getfield (f := (2, 2, 93)) eX3_append dX3_append_21 (by decide +kernel),
  fun l1 l2 l3 l4 l5 x st σ => dn_aload_n eX3_append dX3_append_24 rfl,
  fun l0 l1 l2 l3 l4 l5 q st σ => dn_getfield (f := (2, 7, 109)) eX3_append dX3_append_25 (by decide +kernel),
  fun l0 l1 l2 l4 l5 x st σ => dn_iload_n eX3_append dX3_append_28 rfl,
  fun l0 l1 l2 l3 l4 l5 q i x st σ => dn_iastore eX3_append dX3_append_29,
  fun l1 l2 l3 l4 l5 x st σ => dn_aload_n eX3_append dX3_append_30 rfl,
  fun l0 l1 l2 l3 l4 l5 q st σ => dn_getfield (f := (2, 3, 97)) eX3_append dX3_append_31 (by decide +kernel),
  fun l1 l2 l3 l4 l5 x st σ => dn_aload_n eX3_append dX3_append_34 rfl,
  fun l0 l1 l2 l3 l4 l5 q st σ => dn_getfield (f := (2, 7, 109)) eX3_append dX3_append_35 (by decide +kernel),
  fun l0 l1 l2 l3 l5 x st σ => dn_iload eX3_append dX3_append_38 rfl,
  fun l0 l1 l2 l3 l4 l5 q i x st σ => dn_iastore eX3_append dX3_append_40,
  fun l1 l2 l3 l4 l5 x st σ => dn_aload_n eX3_append dX3_append_41 rfl,
  fun l0 l1 l2 l3 l4 l5 q st σ => dn_getfield (f := (2, 4, 100)) eX3_append dX3_append_42 (by decide +kernel),
  fun l1 l2 l3 l4 l5 x st σ => dn_aload_n eX3_append dX3_append_45 rfl,
  fun l0 l1 l2 l3 l4 l5 q st σ => dn_getfield (f := (2, 7, 109)) eX3_append dX3_append_46 (by decide +kernel),
  fun l0 l1 l2 l3 l4 x st σ => dn_iload eX3_append dX3_append_49 rfl,
  fun l0 l1 l2 l3 l4 l5 q i x st σ => dn_iastore eX3_append dX3_append_51,
  fun l0 l2 l3 l4 l5 x st σ => dn_iload_n eX3_append dX3_append_52 rfl,
  fun l0 l1 l2 l3 l4 l5 st σ => dn_iconst eX3_append dX3_append_53 kc_iconst_5,
  fun l0 l1 l2 l3 l4 l5 x y st σ => dn_icmp_ne eX3_append dX3_append_54 (by decide),
  fun l1 l2 l3 l4 l5 x st σ => dn_aload_n eX3_append dX3_append_57 rfl,
  fun l0 l1 l2 l3 l4 l5 q st σ => dn_getfield (f := (2, 5, 105)) eX3_append dX3_append_58 (by decide +kernel),
  fun l1 l2 l3 l4 l5 x st σ => dn_aload_n eX3_append dX3_append_61 rfl,
  fun l0 l1 l2 l3 l4 l5 q st σ => dn_getfield (f := (2, 8, 115)) eX3_append dX3_append_62 (by decide +kernel),
  fun l1 l2 l3 l4 l5 x st σ => dn_aload_n eX3_append dX3_append_65 rfl,
  fun l0 l1 l2 l3 l4 l5 q st σ => dn_getfield (f := (2, 7, 109)) eX3_append dX3_append_66 (by decide +kernel),
  fun l0 l1 l2 l3 l4 l5 q i x st σ => dn_iastore eX3_append dX3_append_69⟩
set_option maxRecDepth 20000 in
theorem SX3_append_1 : (∀ (l1 l2 l3 l4 l5 : Option Value) (x : Nat) (st : List Value) (σ : dS), den mX3_append 70 [some (.ref x), l1, l2, l3, l4, l5] st σ = den mX3_append 71 [some (.ref x), l1, l2, l3, l4, l5] (.ref x :: st) σ) ∧
  (∀ (l0 l1 l2 l3 l4 l5 : Option Value) (q : Nat) (st : List Value) (σ : dS), den mX3_append 71 [l0, l1, l2, l3, l4, l5] (.ref q :: st) σ = (dget σ q 2 6).bind fun v => den mX3_append 74 [l0, l1, l2, l3, l4, l5] (v :: st) σ) ∧
  (∀ (l1 l2 l3 l4 l5 : Option Value) (x : Nat) (st : List Value) (σ : dS), den mX3_append 74 [some (.ref x), l1, l2, l3, l4, l5] st σ = den mX3_append 75 [some (.ref x), l1, l2, l3, l4, l5] (.ref x :: st) σ) ∧
  (∀ (l0 l1 l2 l3 l4 l5 : Option Value) (q : Nat) (st : List Value) (σ : dS), den mX3_append 75 [l0, l1, l2, l3, l4, l5] (.ref q :: st) σ = (dget σ q 2 8).bind fun v => den mX3_append 78 [l0, l1, l2, l3, l4, l5] (v :: st) σ) ∧
  (∀ (l0 l1 l2 l3 l4 l5 : Option Value) (st : List Value) (σ : dS), den mX3_append 78 [l0, l1, l2, l3, l4, l5] st σ = den mX3_append 79 [l0, l1, l2, l3, l4, l5] (.int (nI 2) :: st) σ) ∧
  (∀ (l0 l1 l2 l3 l4 l5 : Option Value) (q : Nat) (i x : Int32) (st : List Value) (σ : dS), den mX3_append 79 [l0, l1, l2, l3, l4, l5] (.int x :: .int i :: .ref q :: st) σ = (dast σ q 0 i x).bind fun τ => den mX3_append 80 [l0, l1, l2, l3, l4, l5] st τ) ∧
  (∀ (l1 l2 l3 l4 l5 : Option Value) (x : Nat) (st : List Value) (σ : dS), den mX3_append 80 [some (.ref x), l1, l2, l3, l4, l5] st σ = den mX3_append 81 [some (.ref x), l1, l2, l3, l4, l5] (.ref x :: st) σ) ∧
  (∀ (l0 l1 l2 l3 l4 l5 : Option Value) (x : Nat) (st : List Value) (σ : dS), den mX3_append 81 [l0, l1, l2, l3, l4, l5] (.ref x :: st) σ = den mX3_append 82 [l0, l1, l2, l3, l4, l5] (.ref x :: .ref x :: st) σ) ∧
  (∀ (l0 l1 l2 l3 l4 l5 : Option Value) (q : Nat) (st : List Value) (σ : dS), den mX3_append 82 [l0, l1, l2, l3, l4, l5] (.ref q :: st) σ = (dget σ q 2 8).bind fun v => den mX3_append 85 [l0, l1, l2, l3, l4, l5] (v :: st) σ) ∧
  (∀ (l0 l1 l2 l3 l4 l5 : Option Value) (st : List Value) (σ : dS), den mX3_append 85 [l0, l1, l2, l3, l4, l5] st σ = den mX3_append 86 [l0, l1, l2, l3, l4, l5] (.int (nI 1) :: st) σ) ∧
  (∀ (l0 l1 l2 l3 l4 l5 : Option Value) (x y : Int32) (st : List Value) (σ : dS), den mX3_append 86 [l0, l1, l2, l3, l4, l5] (.int y :: .int x :: st) σ = den mX3_append 87 [l0, l1, l2, l3, l4, l5] (.int (x + y) :: st) σ) ∧
  (∀ (l0 l1 l2 l3 l4 l5 : Option Value) (x : Int32) (q : Nat) (st : List Value) (σ : dS), den mX3_append 87 [l0, l1, l2, l3, l4, l5] (.int x :: .ref q :: st) σ = (dput σ q 2 8 (.int x)).bind fun τ => den mX3_append 90 [l0, l1, l2, l3, l4, l5] st τ) ∧
  (∀ (l1 l2 l3 l4 l5 : Option Value) (x : Nat) (st : List Value) (σ : dS), den mX3_append 90 [some (.ref x), l1, l2, l3, l4, l5] st σ = den mX3_append 91 [some (.ref x), l1, l2, l3, l4, l5] (.ref x :: st) σ) ∧
  (∀ (l0 l1 l2 l3 l4 l5 : Option Value) (x : Nat) (st : List Value) (σ : dS), den mX3_append 91 [l0, l1, l2, l3, l4, l5] (.ref x :: st) σ = den mX3_append 92 [l0, l1, l2, l3, l4, l5] (.ref x :: .ref x :: st) σ) ∧
  (∀ (l0 l1 l2 l3 l4 l5 : Option Value) (q : Nat) (st : List Value) (σ : dS), den mX3_append 92 [l0, l1, l2, l3, l4, l5] (.ref q :: st) σ = (dget σ q 2 7).bind fun v => den mX3_append 95 [l0, l1, l2, l3, l4, l5] (v :: st) σ) ∧
  (∀ (l0 l1 l2 l3 l4 l5 : Option Value) (st : List Value) (σ : dS), den mX3_append 95 [l0, l1, l2, l3, l4, l5] st σ = den mX3_append 96 [l0, l1, l2, l3, l4, l5] (.int (nI 1) :: st) σ) ∧
  (∀ (l0 l1 l2 l3 l4 l5 : Option Value) (x y : Int32) (st : List Value) (σ : dS), den mX3_append 96 [l0, l1, l2, l3, l4, l5] (.int y :: .int x :: st) σ = den mX3_append 97 [l0, l1, l2, l3, l4, l5] (.int (x + y) :: st) σ) ∧
  (∀ (l0 l1 l2 l3 l4 l5 : Option Value) (x : Int32) (q : Nat) (st : List Value) (σ : dS), den mX3_append 97 [l0, l1, l2, l3, l4, l5] (.int x :: .ref q :: st) σ = (dput σ q 2 7 (.int x)).bind fun τ => den mX3_append 100 [l0, l1, l2, l3, l4, l5] st τ) ∧
  (∀ (l0 l1 l2 l3 l4 l5 : Option Value) (σ : dS), den mX3_append 100 [l0, l1, l2, l3, l4, l5] [] σ = some (none, σ)) :=
  ⟨fun l1 l2 l3 l4 l5 x st σ => dn_aload_n eX3_append dX3_append_70 rfl,
  fun l0 l1 l2 l3 l4 l5 q st σ => dn_getfield (f := (2, 6, 106)) eX3_append dX3_append_71 (by decide +kernel),
  fun l1 l2 l3 l4 l5 x st σ => dn_aload_n eX3_append dX3_append_74 rfl,
  fun l0 l1 l2 l3 l4 l5 q st σ => dn_getfield (f := (2, 8, 115)) eX3_append dX3_append_75 (by decide +kernel),
  fun l0 l1 l2 l3 l4 l5 st σ => dn_iconst eX3_append dX3_append_78 kc_iconst_2,
  fun l0 l1 l2 l3 l4 l5 q i x st σ => dn_iastore eX3_append dX3_append_79,
  fun l1 l2 l3 l4 l5 x st σ => dn_aload_n eX3_append dX3_append_80 rfl,
  fun l0 l1 l2 l3 l4 l5 x st σ => dn_dup eX3_append dX3_append_81 rfl,
  fun l0 l1 l2 l3 l4 l5 q st σ => dn_getfield (f := (2, 8, 115)) eX3_append dX3_append_82 (by decide +kernel),
  fun l0 l1 l2 l3 l4 l5 st σ => dn_iconst eX3_append dX3_append_85 kc_iconst_1,
  fun l0 l1 l2 l3 l4 l5 x y st σ => dn_iadd eX3_append dX3_append_86,
  fun l0 l1 l2 l3 l4 l5 x q st σ => dn_putfield (f := (2, 8, 115)) (ty := .int) eX3_append dX3_append_87 (by decide +kernel) (by decide +kernel) rfl,
  fun l1 l2 l3 l4 l5 x st σ => dn_aload_n eX3_append dX3_append_90 rfl,
  fun l0 l1 l2 l3 l4 l5 x st σ => dn_dup eX3_append dX3_append_91 rfl,
  fun l0 l1 l2 l3 l4 l5 q st σ => dn_getfield (f := (2, 7, 109)) eX3_append dX3_append_92 (by decide +kernel),
  fun l0 l1 l2 l3 l4 l5 st σ => dn_iconst eX3_append dX3_append_95 kc_iconst_1,
  fun l0 l1 l2 l3 l4 l5 x y st σ => dn_iadd eX3_append dX3_append_96,
  fun l0 l1 l2 l3 l4 l5 x q st σ => dn_putfield (f := (2, 7, 109)) (ty := .int) eX3_append dX3_append_97 (by decide +kernel) (by decide +kernel) rfl,
  fun l0 l1 l2 l3 l4 l5 σ => dn_return eX3_append dX3_append_100 rfl⟩
theorem CX3_hasInstruction (a0 : Nat) (a1 : Int32) (σ : dS) : dcall mX3_hasInstruction [.ref a0, .int a1] σ = den mX3_hasInstruction 0 [some (.ref a0), some (.int a1)] [] σ := dcall_den (by decide) rfl
set_option maxRecDepth 20000 in
theorem SX3_hasInstruction : (∀ (l0 : Option Value) (x : Int32) (st : List Value) (σ : dS), den mX3_hasInstruction 0 [l0, some (.int x)] st σ = den mX3_hasInstruction 1 [l0, some (.int x)] (.int x :: st) σ) ∧
  (∀ (l0 l1 : Option Value) (x : Int32) (st : List Value) (σ : dS), den mX3_hasInstruction 1 [l0, l1] (.int x :: st) σ = if x < 0 then den mX3_hasInstruction 16 [l0, l1] st σ else den mX3_hasInstruction 4 [l0, l1] st σ) ∧
  (∀ (l0 : Option Value) (x : Int32) (st : List Value) (σ : dS), den mX3_hasInstruction 4 [l0, some (.int x)] st σ = den mX3_hasInstruction 5 [l0, some (.int x)] (.int x :: st) σ) ∧
  (∀ (l1 : Option Value) (x : Nat) (st : List Value) (σ : dS), den mX3_hasInstruction 5 [some (.ref x), l1] st σ = den mX3_hasInstruction 6 [some (.ref x), l1] (.ref x :: st) σ) ∧
  (∀ (l0 l1 : Option Value) (q : Nat) (st : List Value) (σ : dS), den mX3_hasInstruction 6 [l0, l1] (.ref q :: st) σ = (dget σ q 2 7).bind fun v => den mX3_hasInstruction 9 [l0, l1] (v :: st) σ) ∧
  (∀ (l0 l1 : Option Value) (x y : Int32) (st : List Value) (σ : dS), den mX3_hasInstruction 9 [l0, l1] (.int y :: .int x :: st) σ = if x < y then den mX3_hasInstruction 12 [l0, l1] st σ else den mX3_hasInstruction 16 [l0, l1] st σ) ∧
  (∀ (l0 l1 : Option Value) (st : List Value) (σ : dS), den mX3_hasInstruction 12 [l0, l1] st σ = den mX3_hasInstruction 13 [l0, l1] (.int (nI 1) :: st) σ) ∧
  (∀ (l0 l1 : Option Value) (st : List Value) (σ : dS), den mX3_hasInstruction 13 [l0, l1] st σ = den mX3_hasInstruction 17 [l0, l1] st σ) ∧
  (∀ (l0 l1 : Option Value) (st : List Value) (σ : dS), den mX3_hasInstruction 16 [l0, l1] st σ = den mX3_hasInstruction 17 [l0, l1] (.int (nI 0) :: st) σ) ∧
  (∀ (l0 l1 : Option Value) (v : Int32) (σ : dS), den mX3_hasInstruction 17 [l0, l1] [.int v] σ = if v = 0 ∨ v = 1 then some (some (.int v), σ) else none) :=
  ⟨fun l0 x st σ => dn_iload_n eX3_hasInstruction dX3_hasInstruction_0 rfl,
  fun l0 l1 x st σ => dn_if_lt eX3_hasInstruction dX3_hasInstruction_1 (by decide),
  fun l0 x st σ => dn_iload_n eX3_hasInstruction dX3_hasInstruction_4 rfl,
  fun l1 x st σ => dn_aload_n eX3_hasInstruction dX3_hasInstruction_5 rfl,
  fun l0 l1 q st σ => dn_getfield (f := (2, 7, 109)) eX3_hasInstruction dX3_hasInstruction_6 (by decide +kernel),
  fun l0 l1 x y st σ => dn_icmp_ge eX3_hasInstruction dX3_hasInstruction_9 (by decide),
  fun l0 l1 st σ => dn_iconst eX3_hasInstruction dX3_hasInstruction_12 kc_iconst_1,
  fun l0 l1 st σ => dn_goto eX3_hasInstruction dX3_hasInstruction_13 (by decide),
  fun l0 l1 st σ => dn_iconst eX3_hasInstruction dX3_hasInstruction_16 kc_iconst_0,
  fun l0 l1 v σ => dn_zreturn eX3_hasInstruction dX3_hasInstruction_17 rfl⟩
theorem CX3_hasIf (a0 : Nat) (a1 : Int32) (σ : dS) : dcall mX3_hasIf [.ref a0, .int a1] σ = den mX3_hasIf 0 [some (.ref a0), some (.int a1)] [] σ := dcall_den (by decide) rfl
set_option maxRecDepth 20000 in
theorem SX3_hasIf : (∀ (l0 : Option Value) (x : Int32) (st : List Value) (σ : dS), den mX3_hasIf 0 [l0, some (.int x)] st σ = den mX3_hasIf 1 [l0, some (.int x)] (.int x :: st) σ) ∧
  (∀ (l0 l1 : Option Value) (x : Int32) (st : List Value) (σ : dS), den mX3_hasIf 1 [l0, l1] (.int x :: st) σ = if x < 0 then den mX3_hasIf 16 [l0, l1] st σ else den mX3_hasIf 4 [l0, l1] st σ) ∧
  (∀ (l0 : Option Value) (x : Int32) (st : List Value) (σ : dS), den mX3_hasIf 4 [l0, some (.int x)] st σ = den mX3_hasIf 5 [l0, some (.int x)] (.int x :: st) σ) ∧
  (∀ (l1 : Option Value) (x : Nat) (st : List Value) (σ : dS), den mX3_hasIf 5 [some (.ref x), l1] st σ = den mX3_hasIf 6 [some (.ref x), l1] (.ref x :: st) σ) ∧
  (∀ (l0 l1 : Option Value) (q : Nat) (st : List Value) (σ : dS), den mX3_hasIf 6 [l0, l1] (.ref q :: st) σ = (dget σ q 2 8).bind fun v => den mX3_hasIf 9 [l0, l1] (v :: st) σ) ∧
  (∀ (l0 l1 : Option Value) (x y : Int32) (st : List Value) (σ : dS), den mX3_hasIf 9 [l0, l1] (.int y :: .int x :: st) σ = if x < y then den mX3_hasIf 12 [l0, l1] st σ else den mX3_hasIf 16 [l0, l1] st σ) ∧
  (∀ (l0 l1 : Option Value) (st : List Value) (σ : dS), den mX3_hasIf 12 [l0, l1] st σ = den mX3_hasIf 13 [l0, l1] (.int (nI 1) :: st) σ) ∧
  (∀ (l0 l1 : Option Value) (st : List Value) (σ : dS), den mX3_hasIf 13 [l0, l1] st σ = den mX3_hasIf 17 [l0, l1] st σ) ∧
  (∀ (l0 l1 : Option Value) (st : List Value) (σ : dS), den mX3_hasIf 16 [l0, l1] st σ = den mX3_hasIf 17 [l0, l1] (.int (nI 0) :: st) σ) ∧
  (∀ (l0 l1 : Option Value) (v : Int32) (σ : dS), den mX3_hasIf 17 [l0, l1] [.int v] σ = if v = 0 ∨ v = 1 then some (some (.int v), σ) else none) :=
  ⟨fun l0 x st σ => dn_iload_n eX3_hasIf dX3_hasIf_0 rfl,
  fun l0 l1 x st σ => dn_if_lt eX3_hasIf dX3_hasIf_1 (by decide),
  fun l0 x st σ => dn_iload_n eX3_hasIf dX3_hasIf_4 rfl,
  fun l1 x st σ => dn_aload_n eX3_hasIf dX3_hasIf_5 rfl,
  fun l0 l1 q st σ => dn_getfield (f := (2, 8, 115)) eX3_hasIf dX3_hasIf_6 (by decide +kernel),
  fun l0 l1 x y st σ => dn_icmp_ge eX3_hasIf dX3_hasIf_9 (by decide),
  fun l0 l1 st σ => dn_iconst eX3_hasIf dX3_hasIf_12 kc_iconst_1,
  fun l0 l1 st σ => dn_goto eX3_hasIf dX3_hasIf_13 (by decide),
  fun l0 l1 st σ => dn_iconst eX3_hasIf dX3_hasIf_16 kc_iconst_0,
  fun l0 l1 v σ => dn_zreturn eX3_hasIf dX3_hasIf_17 rfl⟩
theorem CX3_guardCount (a0 : Nat) (σ : dS) : dcall mX3_guardCount [.ref a0] σ = den mX3_guardCount 0 [some (.ref a0)] [] σ := dcall_den (by decide) rfl
set_option maxRecDepth 20000 in
theorem SX3_guardCount : (∀ (l0 : Option Value) (st : List Value) (σ : dS), den mX3_guardCount 0 [l0] st σ = den mX3_guardCount 1 [l0] (.int (nI 2) :: st) σ) ∧
  (∀ (x : Nat) (st : List Value) (σ : dS), den mX3_guardCount 1 [some (.ref x)] st σ = den mX3_guardCount 2 [some (.ref x)] (.ref x :: st) σ) ∧
  (∀ (l0 : Option Value) (q : Nat) (st : List Value) (σ : dS), den mX3_guardCount 2 [l0] (.ref q :: st) σ = (dget σ q 2 8).bind fun v => den mX3_guardCount 5 [l0] (v :: st) σ) ∧
  (∀ (l0 : Option Value) (x y : Int32) (st : List Value) (σ : dS), den mX3_guardCount 5 [l0] (.int y :: .int x :: st) σ = den mX3_guardCount 6 [l0] (.int (x * y) :: st) σ) ∧
  (∀ (l0 : Option Value) (st : List Value) (σ : dS), den mX3_guardCount 6 [l0] st σ = den mX3_guardCount 7 [l0] (.int (nI 1) :: st) σ) ∧
  (∀ (l0 : Option Value) (x y : Int32) (st : List Value) (σ : dS), den mX3_guardCount 7 [l0] (.int y :: .int x :: st) σ = den mX3_guardCount 8 [l0] (.int (x + y) :: st) σ) ∧
  (∀ (l0 : Option Value) (v : Int32) (σ : dS), den mX3_guardCount 8 [l0] [.int v] σ = some (some (.int v), σ)) :=
  ⟨fun l0 st σ => dn_iconst eX3_guardCount dX3_guardCount_0 kc_iconst_2,
  fun x st σ => dn_aload_n eX3_guardCount dX3_guardCount_1 rfl,
  fun l0 q st σ => dn_getfield (f := (2, 8, 115)) eX3_guardCount dX3_guardCount_2 (by decide +kernel),
  fun l0 x y st σ => dn_imul eX3_guardCount dX3_guardCount_5,
  fun l0 st σ => dn_iconst eX3_guardCount dX3_guardCount_6 kc_iconst_1,
  fun l0 x y st σ => dn_iadd eX3_guardCount dX3_guardCount_7,
  fun l0 v σ => dn_ireturn eX3_guardCount dX3_guardCount_8 rfl⟩
theorem CX3_hasGuard (a0 : Nat) (a1 : Int32) (σ : dS) : dcall mX3_hasGuard [.ref a0, .int a1] σ = den mX3_hasGuard 0 [some (.ref a0), some (.int a1)] [] σ := dcall_den (by decide) rfl
theorem rX3_hasGuard_6 (l0 l1 : Option Value) (b0 : Int32) (q : Nat) (σ : dS) : den mX3_hasGuard 6 [l0, l1] [.ref q, .int b0] σ = if disO σ q 2 = true then ((dcall mX3_guardCount [.ref q] σ).bind fun r => den mX3_hasGuard 9 [l0, l1] (r.1.toList ++ [.int b0]) r.2) else none := by
  by_cases h : disO σ q 2 = true
  · rw [if_pos h]; exact dn_callV (e := (0, 30, 438)) (as := []) (rest := [.int b0]) eX3_hasGuard dX3_hasGuard_6 (by decide +kernel) rfl (by decide +kernel) rfl (dcat_le rfl) (dlen_le rfl) rfl h
  · rw [if_neg h]; exact den_noV (e := (0, 30, 438)) (as := []) (rest := [.int b0]) eX3_hasGuard dX3_hasGuard_6 (by decide +kernel) rfl rfl rfl h
set_option maxRecDepth 20000 in
theorem SX3_hasGuard : (∀ (l0 : Option Value) (x : Int32) (st : List Value) (σ : dS), den mX3_hasGuard 0 [l0, some (.int x)] st σ = den mX3_hasGuard 1 [l0, some (.int x)] (.int x :: st) σ) ∧
  (∀ (l0 l1 : Option Value) (x : Int32) (st : List Value) (σ : dS), den mX3_hasGuard 1 [l0, l1] (.int x :: st) σ = if x < 0 then den mX3_hasGuard 16 [l0, l1] st σ else den mX3_hasGuard 4 [l0, l1] st σ) ∧
  (∀ (l0 : Option Value) (x : Int32) (st : List Value) (σ : dS), den mX3_hasGuard 4 [l0, some (.int x)] st σ = den mX3_hasGuard 5 [l0, some (.int x)] (.int x :: st) σ) ∧
  (∀ (l1 : Option Value) (x : Nat) (st : List Value) (σ : dS), den mX3_hasGuard 5 [some (.ref x), l1] st σ = den mX3_hasGuard 6 [some (.ref x), l1] (.ref x :: st) σ) ∧
  (∀ (l0 l1 : Option Value) (b0 : Int32) (q : Nat) (σ : dS), den mX3_hasGuard 6 [l0, l1] [.ref q, .int b0] σ = if disO σ q 2 = true then ((dcall mX3_guardCount [.ref q] σ).bind fun r => den mX3_hasGuard 9 [l0, l1] (r.1.toList ++ [.int b0]) r.2) else none) ∧
  (∀ (l0 l1 : Option Value) (x y : Int32) (st : List Value) (σ : dS), den mX3_hasGuard 9 [l0, l1] (.int y :: .int x :: st) σ = if x < y then den mX3_hasGuard 12 [l0, l1] st σ else den mX3_hasGuard 16 [l0, l1] st σ) ∧
  (∀ (l0 l1 : Option Value) (st : List Value) (σ : dS), den mX3_hasGuard 12 [l0, l1] st σ = den mX3_hasGuard 13 [l0, l1] (.int (nI 1) :: st) σ) ∧
  (∀ (l0 l1 : Option Value) (st : List Value) (σ : dS), den mX3_hasGuard 13 [l0, l1] st σ = den mX3_hasGuard 17 [l0, l1] st σ) ∧
  (∀ (l0 l1 : Option Value) (st : List Value) (σ : dS), den mX3_hasGuard 16 [l0, l1] st σ = den mX3_hasGuard 17 [l0, l1] (.int (nI 0) :: st) σ) ∧
  (∀ (l0 l1 : Option Value) (v : Int32) (σ : dS), den mX3_hasGuard 17 [l0, l1] [.int v] σ = if v = 0 ∨ v = 1 then some (some (.int v), σ) else none) :=
  ⟨fun l0 x st σ => dn_iload_n eX3_hasGuard dX3_hasGuard_0 rfl,
  fun l0 l1 x st σ => dn_if_lt eX3_hasGuard dX3_hasGuard_1 (by decide),
  fun l0 x st σ => dn_iload_n eX3_hasGuard dX3_hasGuard_4 rfl,
  fun l1 x st σ => dn_aload_n eX3_hasGuard dX3_hasGuard_5 rfl,
  fun l0 l1 b0 q σ => rX3_hasGuard_6 l0 l1 b0 q σ,
  fun l0 l1 x y st σ => dn_icmp_ge eX3_hasGuard dX3_hasGuard_9 (by decide),
  fun l0 l1 st σ => dn_iconst eX3_hasGuard dX3_hasGuard_12 kc_iconst_1,
  fun l0 l1 st σ => dn_goto eX3_hasGuard dX3_hasGuard_13 (by decide),
  fun l0 l1 st σ => dn_iconst eX3_hasGuard dX3_hasGuard_16 kc_iconst_0,
  fun l0 l1 v σ => dn_zreturn eX3_hasGuard dX3_hasGuard_17 rfl⟩
theorem CX3_isCompute (a0 : Nat) (a1 : Int32) (σ : dS) : dcall mX3_isCompute [.ref a0, .int a1] σ = den mX3_isCompute 0 [some (.ref a0), some (.int a1)] [] σ := dcall_den (by decide) rfl
set_option maxRecDepth 20000 in
theorem SX3_isCompute : (∀ (l1 : Option Value) (x : Nat) (st : List Value) (σ : dS), den mX3_isCompute 0 [some (.ref x), l1] st σ = den mX3_isCompute 1 [some (.ref x), l1] (.ref x :: st) σ) ∧
  (∀ (l0 l1 : Option Value) (q : Nat) (st : List Value) (σ : dS), den mX3_isCompute 1 [l0, l1] (.ref q :: st) σ = (dget σ q 2 0).bind fun v => den mX3_isCompute 4 [l0, l1] (v :: st) σ) ∧
  (∀ (l0 : Option Value) (x : Int32) (st : List Value) (σ : dS), den mX3_isCompute 4 [l0, some (.int x)] st σ = den mX3_isCompute 5 [l0, some (.int x)] (.int x :: st) σ) ∧
  (∀ (l0 l1 : Option Value) (q : Nat) (i : Int32) (st : List Value) (σ : dS), den mX3_isCompute 5 [l0, l1] (.int i :: .ref q :: st) σ = if q ≤ dN then (dald σ q 0 i).bind (fun v => den mX3_isCompute 6 [l0, l1] (.int v :: st) σ) else none) ∧
  (∀ (l0 l1 : Option Value) (st : List Value) (σ : dS), den mX3_isCompute 6 [l0, l1] st σ = den mX3_isCompute 7 [l0, l1] (.int (nI 1) :: st) σ) ∧
  (∀ (l0 l1 : Option Value) (x y : Int32) (st : List Value) (σ : dS), den mX3_isCompute 7 [l0, l1] (.int y :: .int x :: st) σ = if x < y then den mX3_isCompute 24 [l0, l1] st σ else den mX3_isCompute 10 [l0, l1] st σ) ∧
  (∀ (l1 : Option Value) (x : Nat) (st : List Value) (σ : dS), den mX3_isCompute 10 [some (.ref x), l1] st σ = den mX3_isCompute 11 [some (.ref x), l1] (.ref x :: st) σ) ∧
  (∀ (l0 l1 : Option Value) (q : Nat) (st : List Value) (σ : dS), den mX3_isCompute 11 [l0, l1] (.ref q :: st) σ = (dget σ q 2 0).bind fun v => den mX3_isCompute 14 [l0, l1] (v :: st) σ) ∧
  (∀ (l0 : Option Value) (x : Int32) (st : List Value) (σ : dS), den mX3_isCompute 14 [l0, some (.int x)] st σ = den mX3_isCompute 15 [l0, some (.int x)] (.int x :: st) σ) ∧
  (∀ (l0 l1 : Option Value) (q : Nat) (i : Int32) (st : List Value) (σ : dS), den mX3_isCompute 15 [l0, l1] (.int i :: .ref q :: st) σ = if q ≤ dN then (dald σ q 0 i).bind (fun v => den mX3_isCompute 16 [l0, l1] (.int v :: st) σ) else none) ∧
  (∀ (l0 l1 : Option Value) (st : List Value) (σ : dS), den mX3_isCompute 16 [l0, l1] st σ = den mX3_isCompute 17 [l0, l1] (.int (nI 4) :: st) σ) ∧
  (∀ (l0 l1 : Option Value) (x y : Int32) (st : List Value) (σ : dS), den mX3_isCompute 17 [l0, l1] (.int y :: .int x :: st) σ = if y < x then den mX3_isCompute 24 [l0, l1] st σ else den mX3_isCompute 20 [l0, l1] st σ) ∧
  (∀ (l0 l1 : Option Value) (st : List Value) (σ : dS), den mX3_isCompute 20 [l0, l1] st σ = den mX3_isCompute 21 [l0, l1] (.int (nI 1) :: st) σ) ∧
  (∀ (l0 l1 : Option Value) (st : List Value) (σ : dS), den mX3_isCompute 21 [l0, l1] st σ = den mX3_isCompute 25 [l0, l1] st σ) ∧
  (∀ (l0 l1 : Option Value) (st : List Value) (σ : dS), den mX3_isCompute 24 [l0, l1] st σ = den mX3_isCompute 25 [l0, l1] (.int (nI 0) :: st) σ) ∧
  (∀ (l0 l1 : Option Value) (v : Int32) (σ : dS), den mX3_isCompute 25 [l0, l1] [.int v] σ = if v = 0 ∨ v = 1 then some (some (.int v), σ) else none) :=
  ⟨fun l1 x st σ => dn_aload_n eX3_isCompute dX3_isCompute_0 rfl,
  fun l0 l1 q st σ => dn_getfield (f := (2, 0, 84)) eX3_isCompute dX3_isCompute_1 (by decide +kernel),
  fun l0 x st σ => dn_iload_n eX3_isCompute dX3_isCompute_4 rfl,
  fun l0 l1 q i st σ => dn_iaload eX3_isCompute dX3_isCompute_5,
  fun l0 l1 st σ => dn_iconst eX3_isCompute dX3_isCompute_6 kc_iconst_1,
  fun l0 l1 x y st σ => dn_icmp_lt eX3_isCompute dX3_isCompute_7 (by decide),
  fun l1 x st σ => dn_aload_n eX3_isCompute dX3_isCompute_10 rfl,
  fun l0 l1 q st σ => dn_getfield (f := (2, 0, 84)) eX3_isCompute dX3_isCompute_11 (by decide +kernel),
  fun l0 x st σ => dn_iload_n eX3_isCompute dX3_isCompute_14 rfl,
  fun l0 l1 q i st σ => dn_iaload eX3_isCompute dX3_isCompute_15,
  fun l0 l1 st σ => dn_iconst eX3_isCompute dX3_isCompute_16 kc_iconst_4,
  fun l0 l1 x y st σ => dn_icmp_gt eX3_isCompute dX3_isCompute_17 (by decide),
  fun l0 l1 st σ => dn_iconst eX3_isCompute dX3_isCompute_20 kc_iconst_1,
  fun l0 l1 st σ => dn_goto eX3_isCompute dX3_isCompute_21 (by decide),
  fun l0 l1 st σ => dn_iconst eX3_isCompute dX3_isCompute_24 kc_iconst_0,
  fun l0 l1 v σ => dn_zreturn eX3_isCompute dX3_isCompute_25 rfl⟩
theorem CX3_ifOf (a0 : Nat) (a1 : Int32) (σ : dS) : dcall mX3_ifOf [.ref a0, .int a1] σ = den mX3_ifOf 0 [some (.ref a0), some (.int a1), none] [] σ := dcall_den (by decide) rfl
theorem hX3_ifOf_2 (l0 l1 : Option Value) (x : Int32) (st : List Value) (σ : dS) : den mX3_ifOf 2 [l0, l1, some (.int x)] st σ = den mX3_ifOf 3 [l0, l1, some (.int x)] (.int x :: st) σ := dn_iload_n eX3_ifOf dX3_ifOf_2 rfl
set_option maxRecDepth 20000 in
theorem SX3_ifOf : (∀ (l0 l1 l2 : Option Value) (st : List Value) (σ : dS), den mX3_ifOf 0 [l0, l1, l2] st σ = den mX3_ifOf 1 [l0, l1, l2] (.int (nI 0) :: st) σ) ∧
  (∀ (l0 l2 : Option Value) (x : Int32) (y : Int32) (st : List Value) (σ : dS), den mX3_ifOf 1 [l0, some (.int y), l2] (.int x :: st) σ = den mX3_ifOf 2 [l0, some (.int y), some (.int x)] st σ) ∧
  (∀ (l1 l2 : Option Value) (x : Nat) (st : List Value) (σ : dS), den mX3_ifOf 3 [some (.ref x), l1, l2] st σ = den mX3_ifOf 4 [some (.ref x), l1, l2] (.ref x :: st) σ) ∧
  (∀ (l0 l1 l2 : Option Value) (q : Nat) (st : List Value) (σ : dS), den mX3_ifOf 4 [l0, l1, l2] (.ref q :: st) σ = (dget σ q 2 8).bind fun v => den mX3_ifOf 7 [l0, l1, l2] (v :: st) σ) ∧
  (∀ (l0 l1 l2 : Option Value) (x y : Int32) (st : List Value) (σ : dS), den mX3_ifOf 7 [l0, l1, l2] (.int y :: .int x :: st) σ = if x < y then den mX3_ifOf 10 [l0, l1, l2] st σ else den mX3_ifOf 28 [l0, l1, l2] st σ) ∧
  (∀ (l1 l2 : Option Value) (x : Nat) (st : List Value) (σ : dS), den mX3_ifOf 10 [some (.ref x), l1, l2] st σ = den mX3_ifOf 11 [some (.ref x), l1, l2] (.ref x :: st) σ) ∧
  (∀ (l0 l1 l2 : Option Value) (q : Nat) (st : List Value) (σ : dS), den mX3_ifOf 11 [l0, l1, l2] (.ref q :: st) σ = (dget σ q 2 5).bind fun v => den mX3_ifOf 14 [l0, l1, l2] (v :: st) σ) ∧
  (∀ (l0 l1 : Option Value) (x : Int32) (st : List Value) (σ : dS), den mX3_ifOf 14 [l0, l1, some (.int x)] st σ = den mX3_ifOf 15 [l0, l1, some (.int x)] (.int x :: st) σ) ∧
  (∀ (l0 l1 l2 : Option Value) (q : Nat) (i : Int32) (st : List Value) (σ : dS), den mX3_ifOf 15 [l0, l1, l2] (.int i :: .ref q :: st) σ = if q ≤ dN then (dald σ q 0 i).bind (fun v => den mX3_ifOf 16 [l0, l1, l2] (.int v :: st) σ) else none) ∧
  (∀ (l0 l2 : Option Value) (x : Int32) (st : List Value) (σ : dS), den mX3_ifOf 16 [l0, some (.int x), l2] st σ = den mX3_ifOf 17 [l0, some (.int x), l2] (.int x :: st) σ) ∧
  (∀ (l0 l1 l2 : Option Value) (x y : Int32) (st : List Value) (σ : dS), den mX3_ifOf 17 [l0, l1, l2] (.int y :: .int x :: st) σ = if x = y then den mX3_ifOf 20 [l0, l1, l2] st σ else den mX3_ifOf 22 [l0, l1, l2] st σ) ∧
  (∀ (l0 l1 : Option Value) (x : Int32) (st : List Value) (σ : dS), den mX3_ifOf 20 [l0, l1, some (.int x)] st σ = den mX3_ifOf 21 [l0, l1, some (.int x)] (.int x :: st) σ) ∧
  (∀ (l0 l1 l2 : Option Value) (v : Int32) (σ : dS), den mX3_ifOf 21 [l0, l1, l2] [.int v] σ = some (some (.int v), σ)) ∧
  (∀ (l0 : Option Value) (x : Int32) (y : Int32) (st : List Value) (σ : dS), den mX3_ifOf 22 [l0, some (.int y), some (.int x)] st σ = den mX3_ifOf 25 [l0, some (.int y), some (.int (x + nI 1))] st σ) ∧
  (∀ (l0 l1 l2 : Option Value) (st : List Value) (σ : dS), den mX3_ifOf 25 [l0, l1, l2] st σ = den mX3_ifOf 2 [l0, l1, l2] st σ) ∧
  (∀ (l0 l1 l2 : Option Value) (st : List Value) (σ : dS), den mX3_ifOf 28 [l0, l1, l2] st σ = den mX3_ifOf 30 [l0, l1, l2] (.int ((-4)) :: st) σ) ∧
  (∀ (l0 l1 l2 : Option Value) (v : Int32) (σ : dS), den mX3_ifOf 30 [l0, l1, l2] [.int v] σ = some (some (.int v), σ)) :=
  ⟨fun l0 l1 l2 st σ => dn_iconst eX3_ifOf dX3_ifOf_0 kc_iconst_0,
  fun l0 l2 x y st σ => dn_istore_n eX3_ifOf dX3_ifOf_1 rfl,
  fun l1 l2 x st σ => dn_aload_n eX3_ifOf dX3_ifOf_3 rfl,
  fun l0 l1 l2 q st σ => dn_getfield (f := (2, 8, 115)) eX3_ifOf dX3_ifOf_4 (by decide +kernel),
  fun l0 l1 l2 x y st σ => dn_icmp_ge eX3_ifOf dX3_ifOf_7 (by decide),
  fun l1 l2 x st σ => dn_aload_n eX3_ifOf dX3_ifOf_10 rfl,
  fun l0 l1 l2 q st σ => dn_getfield (f := (2, 5, 105)) eX3_ifOf dX3_ifOf_11 (by decide +kernel),
  fun l0 l1 x st σ => dn_iload_n eX3_ifOf dX3_ifOf_14 rfl,
  fun l0 l1 l2 q i st σ => dn_iaload eX3_ifOf dX3_ifOf_15,
  fun l0 l2 x st σ => dn_iload_n eX3_ifOf dX3_ifOf_16 rfl,
  fun l0 l1 l2 x y st σ => dn_icmp_ne eX3_ifOf dX3_ifOf_17 (by decide),
  fun l0 l1 x st σ => dn_iload_n eX3_ifOf dX3_ifOf_20 rfl,
  fun l0 l1 l2 v σ => dn_ireturn eX3_ifOf dX3_ifOf_21 rfl,
  fun l0 x y st σ => dn_iinc (v := nI 1) eX3_ifOf dX3_ifOf_22 rfl kc_iconst_1 rfl,
  fun l0 l1 l2 st σ => dn_goto eX3_ifOf dX3_ifOf_25 (by decide),
  fun l0 l1 l2 st σ => dn_bipush eX3_ifOf dX3_ifOf_28 kc_bipush_m4,
  fun l0 l1 l2 v σ => dn_ireturn eX3_ifOf dX3_ifOf_30 rfl⟩
theorem CX3_isYes (a0 : Int32) (σ : dS) : dcall mX3_isYes [.int a0] σ = den mX3_isYes 0 [some (.int a0)] [] σ := dcall_den (by decide) rfl
set_option maxRecDepth 20000 in
theorem SX3_isYes : (∀ (x : Int32) (st : List Value) (σ : dS), den mX3_isYes 0 [some (.int x)] st σ = den mX3_isYes 1 [some (.int x)] (.int x :: st) σ) ∧
  (∀ (l0 : Option Value) (st : List Value) (σ : dS), den mX3_isYes 1 [l0] st σ = den mX3_isYes 2 [l0] (.int (nI 2) :: st) σ) ∧
  (∀ (l0 : Option Value) (x y : Int32) (st : List Value) (σ : dS), den mX3_isYes 2 [l0] (.int y :: .int x :: st) σ = if y = 0 then none else den mX3_isYes 3 [l0] (.int (x - x / y * y) :: st) σ) ∧
  (∀ (l0 : Option Value) (st : List Value) (σ : dS), den mX3_isYes 3 [l0] st σ = den mX3_isYes 4 [l0] (.int (nI 1) :: st) σ) ∧
  (∀ (l0 : Option Value) (x y : Int32) (st : List Value) (σ : dS), den mX3_isYes 4 [l0] (.int y :: .int x :: st) σ = if x = y then den mX3_isYes 7 [l0] st σ else den mX3_isYes 11 [l0] st σ) ∧
  (∀ (l0 : Option Value) (st : List Value) (σ : dS), den mX3_isYes 7 [l0] st σ = den mX3_isYes 8 [l0] (.int (nI 1) :: st) σ) ∧
  (∀ (l0 : Option Value) (st : List Value) (σ : dS), den mX3_isYes 8 [l0] st σ = den mX3_isYes 12 [l0] st σ) ∧
  (∀ (l0 : Option Value) (st : List Value) (σ : dS), den mX3_isYes 11 [l0] st σ = den mX3_isYes 12 [l0] (.int (nI 0) :: st) σ) ∧
  (∀ (l0 : Option Value) (v : Int32) (σ : dS), den mX3_isYes 12 [l0] [.int v] σ = if v = 0 ∨ v = 1 then some (some (.int v), σ) else none) :=
  ⟨fun x st σ => dn_iload_n eX3_isYes dX3_isYes_0 rfl,
  fun l0 st σ => dn_iconst eX3_isYes dX3_isYes_1 kc_iconst_2,
  fun l0 x y st σ => dn_irem eX3_isYes dX3_isYes_2,
  fun l0 st σ => dn_iconst eX3_isYes dX3_isYes_3 kc_iconst_1,
  fun l0 x y st σ => dn_icmp_ne eX3_isYes dX3_isYes_4 (by decide),
  fun l0 st σ => dn_iconst eX3_isYes dX3_isYes_7 kc_iconst_1,
  fun l0 st σ => dn_goto eX3_isYes dX3_isYes_8 (by decide),
  fun l0 st σ => dn_iconst eX3_isYes dX3_isYes_11 kc_iconst_0,
  fun l0 v σ => dn_zreturn eX3_isYes dX3_isYes_12 rfl⟩
theorem CX3_tenthsOf (a0 : Nat) (a1 : Int32) (σ : dS) : dcall mX3_tenthsOf [.ref a0, .int a1] σ = den mX3_tenthsOf 0 [some (.ref a0), some (.int a1), none] [] σ := dcall_den (by decide) rfl
theorem rX3_tenthsOf_6 (l0 l1 l2 : Option Value) (a0 : Int32) (b0 : Nat) (q : Nat) (σ : dS) : den mX3_tenthsOf 6 [l0, l1, l2] [.int a0, .ref q, .ref b0] σ = if disO σ q 2 = true then ((dcall mX3_makerOf [.ref q, .int a0] σ).bind fun r => den mX3_tenthsOf 9 [l0, l1, l2] (r.1.toList ++ [.ref b0]) r.2) else none := by
  by_cases h : disO σ q 2 = true
  · rw [if_pos h]; exact dn_callV (e := (0, 4, 450)) (as := [.int a0]) (rest := [.ref b0]) eX3_tenthsOf dX3_tenthsOf_6 (by decide +kernel) rfl (by decide +kernel) rfl (dcat_le rfl) (dlen_le rfl) rfl h
  · rw [if_neg h]; exact den_noV (e := (0, 4, 450)) (as := [.int a0]) (rest := [.ref b0]) eX3_tenthsOf dX3_tenthsOf_6 (by decide +kernel) rfl rfl rfl h
set_option maxRecDepth 20000 in
theorem SX3_tenthsOf : (∀ (l1 l2 : Option Value) (x : Nat) (st : List Value) (σ : dS), den mX3_tenthsOf 0 [some (.ref x), l1, l2] st σ = den mX3_tenthsOf 1 [some (.ref x), l1, l2] (.ref x :: st) σ) ∧
  (∀ (l0 l1 l2 : Option Value) (q : Nat) (st : List Value) (σ : dS), den mX3_tenthsOf 1 [l0, l1, l2] (.ref q :: st) σ = (dget σ q 2 2).bind fun v => den mX3_tenthsOf 4 [l0, l1, l2] (v :: st) σ) ∧
  (∀ (l1 l2 : Option Value) (x : Nat) (st : List Value) (σ : dS), den mX3_tenthsOf 4 [some (.ref x), l1, l2] st σ = den mX3_tenthsOf 5 [some (.ref x), l1, l2] (.ref x :: st) σ) ∧
  (∀ (l0 l2 : Option Value) (x : Int32) (st : List Value) (σ : dS), den mX3_tenthsOf 5 [l0, some (.int x), l2] st σ = den mX3_tenthsOf 6 [l0, some (.int x), l2] (.int x :: st) σ) ∧
  (∀ (l0 l1 l2 : Option Value) (a0 : Int32) (b0 : Nat) (q : Nat) (σ : dS), den mX3_tenthsOf 6 [l0, l1, l2] [.int a0, .ref q, .ref b0] σ = if disO σ q 2 = true then ((dcall mX3_makerOf [.ref q, .int a0] σ).bind fun r => den mX3_tenthsOf 9 [l0, l1, l2] (r.1.toList ++ [.ref b0]) r.2) else none) ∧
  (∀ (l0 l1 l2 : Option Value) (q : Nat) (i : Int32) (st : List Value) (σ : dS), den mX3_tenthsOf 9 [l0, l1, l2] (.int i :: .ref q :: st) σ = if q ≤ dN then (dald σ q 0 i).bind (fun v => den mX3_tenthsOf 10 [l0, l1, l2] (.int v :: st) σ) else none) ∧
  (∀ (l0 l2 : Option Value) (x : Int32) (y : Int32) (st : List Value) (σ : dS), den mX3_tenthsOf 10 [l0, some (.int y), l2] (.int x :: st) σ = den mX3_tenthsOf 11 [l0, some (.int y), some (.int x)] st σ) ∧
  (∀ (l0 l2 : Option Value) (x : Int32) (st : List Value) (σ : dS), den mX3_tenthsOf 11 [l0, some (.int x), l2] st σ = den mX3_tenthsOf 12 [l0, some (.int x), l2] (.int x :: st) σ) ∧
  (∀ (l0 l1 l2 : Option Value) (a0 : Int32) (σ : dS), den mX3_tenthsOf 12 [l0, l1, l2] [.int a0] σ = (dcall mX3_isYes [.int a0] σ).bind fun r => den mX3_tenthsOf 15 [l0, l1, l2] (r.1.toList ++ []) r.2) ∧
  (∀ (l0 l1 l2 : Option Value) (x : Int32) (st : List Value) (σ : dS), den mX3_tenthsOf 15 [l0, l1, l2] (.int x :: st) σ = if x = 0 then den mX3_tenthsOf 22 [l0, l1, l2] st σ else den mX3_tenthsOf 18 [l0, l1, l2] st σ) ∧
  (∀ (l0 l1 : Option Value) (x : Int32) (st : List Value) (σ : dS), den mX3_tenthsOf 18 [l0, l1, some (.int x)] st σ = den mX3_tenthsOf 19 [l0, l1, some (.int x)] (.int x :: st) σ) ∧
  (∀ (l0 l1 l2 : Option Value) (st : List Value) (σ : dS), den mX3_tenthsOf 19 [l0, l1, l2] st σ = den mX3_tenthsOf 26 [l0, l1, l2] st σ) ∧
  (∀ (l0 l1 l2 : Option Value) (st : List Value) (σ : dS), den mX3_tenthsOf 22 [l0, l1, l2] st σ = den mX3_tenthsOf 24 [l0, l1, l2] (.int (nI 10) :: st) σ) ∧
  (∀ (l0 l1 : Option Value) (x : Int32) (st : List Value) (σ : dS), den mX3_tenthsOf 24 [l0, l1, some (.int x)] st σ = den mX3_tenthsOf 25 [l0, l1, some (.int x)] (.int x :: st) σ) ∧
  (∀ (l0 l1 l2 : Option Value) (x y : Int32) (st : List Value) (σ : dS), den mX3_tenthsOf 25 [l0, l1, l2] (.int y :: .int x :: st) σ = den mX3_tenthsOf 26 [l0, l1, l2] (.int (x - y) :: st) σ) ∧
  (∀ (l0 l1 l2 : Option Value) (v : Int32) (σ : dS), den mX3_tenthsOf 26 [l0, l1, l2] [.int v] σ = some (some (.int v), σ)) :=
  ⟨fun l1 l2 x st σ => dn_aload_n eX3_tenthsOf dX3_tenthsOf_0 rfl,
  fun l0 l1 l2 q st σ => dn_getfield (f := (2, 2, 93)) eX3_tenthsOf dX3_tenthsOf_1 (by decide +kernel),
  fun l1 l2 x st σ => dn_aload_n eX3_tenthsOf dX3_tenthsOf_4 rfl,
  fun l0 l2 x st σ => dn_iload_n eX3_tenthsOf dX3_tenthsOf_5 rfl,
  fun l0 l1 l2 a0 b0 q σ => rX3_tenthsOf_6 l0 l1 l2 a0 b0 q σ,
  fun l0 l1 l2 q i st σ => dn_iaload eX3_tenthsOf dX3_tenthsOf_9,
  fun l0 l2 x y st σ => dn_istore_n eX3_tenthsOf dX3_tenthsOf_10 rfl,
  fun l0 l2 x st σ => dn_iload_n eX3_tenthsOf dX3_tenthsOf_11 rfl,
  fun l0 l1 l2 a0 σ => dn_callS (e := (1, 34, 626)) (as := [.int a0]) (rest := []) eX3_tenthsOf dX3_tenthsOf_12 (by decide +kernel) (Or.inl rfl) (by decide +kernel) rfl (dcat_le rfl) (dlen_le rfl) rfl,
  fun l0 l1 l2 x st σ => dn_if_eq eX3_tenthsOf dX3_tenthsOf_15 (by decide),
  fun l0 l1 x st σ => dn_iload_n eX3_tenthsOf dX3_tenthsOf_18 rfl,
  fun l0 l1 l2 st σ => dn_goto eX3_tenthsOf dX3_tenthsOf_19 (by decide),
  fun l0 l1 l2 st σ => dn_bipush eX3_tenthsOf dX3_tenthsOf_22 kc_bipush_10,
  fun l0 l1 x st σ => dn_iload_n eX3_tenthsOf dX3_tenthsOf_24 rfl,
  fun l0 l1 l2 x y st σ => dn_isub eX3_tenthsOf dX3_tenthsOf_25,
  fun l0 l1 l2 v σ => dn_ireturn eX3_tenthsOf dX3_tenthsOf_26 rfl⟩
theorem CX3_depthOf (a0 : Nat) (a1 : Int32) (σ : dS) : dcall mX3_depthOf [.ref a0, .int a1] σ = den mX3_depthOf 0 [some (.ref a0), some (.int a1), none, none] [] σ := dcall_den (by decide) rfl
theorem hX3_depthOf_4 (l0 l1 l3 : Option Value) (x : Int32) (st : List Value) (σ : dS) : den mX3_depthOf 4 [l0, l1, some (.int x), l3] st σ = den mX3_depthOf 5 [l0, l1, some (.int x), l3] (.int x :: st) σ := dn_iload_n eX3_depthOf dX3_depthOf_4 rfl
theorem rX3_depthOf_16 (l0 l1 l2 l3 : Option Value) (a0 : Int32) (q : Nat) (σ : dS) : den mX3_depthOf 16 [l0, l1, l2, l3] [.int a0, .ref q] σ = if disO σ q 2 = true then ((dcall mX3_parentOf [.ref q, .int a0] σ).bind fun r => den mX3_depthOf 19 [l0, l1, l2, l3] (r.1.toList ++ []) r.2) else none := by
  by_cases h : disO σ q 2 = true
  · rw [if_pos h]; exact dn_callV (e := (0, 5, 446)) (as := [.int a0]) (rest := []) eX3_depthOf dX3_depthOf_16 (by decide +kernel) rfl (by decide +kernel) rfl (dcat_le rfl) (dlen_le rfl) rfl h
  · rw [if_neg h]; exact den_noV (e := (0, 5, 446)) (as := [.int a0]) (rest := []) eX3_depthOf dX3_depthOf_16 (by decide +kernel) rfl rfl rfl h
set_option maxRecDepth 20000 in
theorem SX3_depthOf : (∀ (l0 l1 l2 l3 : Option Value) (st : List Value) (σ : dS), den mX3_depthOf 0 [l0, l1, l2, l3] st σ = den mX3_depthOf 1 [l0, l1, l2, l3] (.int (nI 0) :: st) σ) ∧
  (∀ (l0 l2 l3 : Option Value) (x : Int32) (y : Int32) (st : List Value) (σ : dS), den mX3_depthOf 1 [l0, some (.int y), l2, l3] (.int x :: st) σ = den mX3_depthOf 2 [l0, some (.int y), some (.int x), l3] st σ) ∧
  (∀ (l0 l2 l3 : Option Value) (x : Int32) (st : List Value) (σ : dS), den mX3_depthOf 2 [l0, some (.int x), l2, l3] st σ = den mX3_depthOf 3 [l0, some (.int x), l2, l3] (.int x :: st) σ) ∧
  (∀ (l0 l1 l3 : Option Value) (x : Int32) (y : Int32) (st : List Value) (σ : dS), den mX3_depthOf 3 [l0, l1, some (.int y), l3] (.int x :: st) σ = den mX3_depthOf 4 [l0, l1, some (.int y), some (.int x)] st σ) ∧
  (∀ (l0 l1 l2 l3 : Option Value) (st : List Value) (σ : dS), den mX3_depthOf 5 [l0, l1, l2, l3] st σ = den mX3_depthOf 7 [l0, l1, l2, l3] (.int (nI 6) :: st) σ) ∧
  (∀ (l0 l1 l2 l3 : Option Value) (x y : Int32) (st : List Value) (σ : dS), den mX3_depthOf 7 [l0, l1, l2, l3] (.int y :: .int x :: st) σ = if x < y then den mX3_depthOf 10 [l0, l1, l2, l3] st σ else den mX3_depthOf 26 [l0, l1, l2, l3] st σ) ∧
  (∀ (l0 l1 l2 : Option Value) (x : Int32) (st : List Value) (σ : dS), den mX3_depthOf 10 [l0, l1, l2, some (.int x)] st σ = den mX3_depthOf 11 [l0, l1, l2, some (.int x)] (.int x :: st) σ) ∧
  (∀ (l0 l1 l2 l3 : Option Value) (x : Int32) (st : List Value) (σ : dS), den mX3_depthOf 11 [l0, l1, l2, l3] (.int x :: st) σ = if 0 < x then den mX3_depthOf 14 [l0, l1, l2, l3] st σ else den mX3_depthOf 26 [l0, l1, l2, l3] st σ) ∧
  (∀ (l1 l2 l3 : Option Value) (x : Nat) (st : List Value) (σ : dS), den mX3_depthOf 14 [some (.ref x), l1, l2, l3] st σ = den mX3_depthOf 15 [some (.ref x), l1, l2, l3] (.ref x :: st) σ) ∧
  (∀ (l0 l1 l2 : Option Value) (x : Int32) (st : List Value) (σ : dS), den mX3_depthOf 15 [l0, l1, l2, some (.int x)] st σ = den mX3_depthOf 16 [l0, l1, l2, some (.int x)] (.int x :: st) σ) ∧
  (∀ (l0 l1 l2 l3 : Option Value) (a0 : Int32) (q : Nat) (σ : dS), den mX3_depthOf 16 [l0, l1, l2, l3] [.int a0, .ref q] σ = if disO σ q 2 = true then ((dcall mX3_parentOf [.ref q, .int a0] σ).bind fun r => den mX3_depthOf 19 [l0, l1, l2, l3] (r.1.toList ++ []) r.2) else none) ∧
  (∀ (l0 l1 l3 : Option Value) (x : Int32) (y : Int32) (st : List Value) (σ : dS), den mX3_depthOf 19 [l0, l1, some (.int y), l3] (.int x :: st) σ = den mX3_depthOf 20 [l0, l1, some (.int y), some (.int x)] st σ) ∧
  (∀ (l0 l3 : Option Value) (x : Int32) (y : Int32) (st : List Value) (σ : dS), den mX3_depthOf 20 [l0, some (.int y), some (.int x), l3] st σ = den mX3_depthOf 23 [l0, some (.int y), some (.int (x + nI 1)), l3] st σ) ∧
  (∀ (l0 l1 l2 l3 : Option Value) (st : List Value) (σ : dS), den mX3_depthOf 23 [l0, l1, l2, l3] st σ = den mX3_depthOf 4 [l0, l1, l2, l3] st σ) ∧
  (∀ (l0 l1 l3 : Option Value) (x : Int32) (st : List Value) (σ : dS), den mX3_depthOf 26 [l0, l1, some (.int x), l3] st σ = den mX3_depthOf 27 [l0, l1, some (.int x), l3] (.int x :: st) σ) ∧
  (∀ (l0 l1 l2 l3 : Option Value) (v : Int32) (σ : dS), den mX3_depthOf 27 [l0, l1, l2, l3] [.int v] σ = some (some (.int v), σ)) :=
  ⟨fun l0 l1 l2 l3 st σ => dn_iconst eX3_depthOf dX3_depthOf_0 kc_iconst_0,
  fun l0 l2 l3 x y st σ => dn_istore_n eX3_depthOf dX3_depthOf_1 rfl,
  fun l0 l2 l3 x st σ => dn_iload_n eX3_depthOf dX3_depthOf_2 rfl,
  fun l0 l1 l3 x y st σ => dn_istore_n eX3_depthOf dX3_depthOf_3 rfl,
  fun l0 l1 l2 l3 st σ => dn_bipush eX3_depthOf dX3_depthOf_5 kc_bipush_6,
  fun l0 l1 l2 l3 x y st σ => dn_icmp_ge eX3_depthOf dX3_depthOf_7 (by decide),
  fun l0 l1 l2 x st σ => dn_iload_n eX3_depthOf dX3_depthOf_10 rfl,
  fun l0 l1 l2 l3 x st σ => dn_if_le eX3_depthOf dX3_depthOf_11 (by decide),
  fun l1 l2 l3 x st σ => dn_aload_n eX3_depthOf dX3_depthOf_14 rfl,
  fun l0 l1 l2 x st σ => dn_iload_n eX3_depthOf dX3_depthOf_15 rfl,
  fun l0 l1 l2 l3 a0 q σ => rX3_depthOf_16 l0 l1 l2 l3 a0 q σ,
  fun l0 l1 l3 x y st σ => dn_istore_n eX3_depthOf dX3_depthOf_19 rfl,
  fun l0 l3 x y st σ => dn_iinc (v := nI 1) eX3_depthOf dX3_depthOf_20 rfl kc_iconst_1 rfl,
  fun l0 l1 l2 l3 st σ => dn_goto eX3_depthOf dX3_depthOf_23 (by decide),
  fun l0 l1 l3 x st σ => dn_iload_n eX3_depthOf dX3_depthOf_26 rfl,
  fun l0 l1 l2 l3 v σ => dn_ireturn eX3_depthOf dX3_depthOf_27 rfl⟩
theorem CX3_greatestDepth (a0 : Nat) (σ : dS) : dcall mX3_greatestDepth [.ref a0] σ = den mX3_greatestDepth 0 [some (.ref a0), none, none] [] σ := dcall_den (by decide) rfl
theorem hX3_greatestDepth_4 (l0 l1 : Option Value) (x : Int32) (st : List Value) (σ : dS) : den mX3_greatestDepth 4 [l0, l1, some (.int x)] st σ = den mX3_greatestDepth 5 [l0, l1, some (.int x)] (.int x :: st) σ := dn_iload_n eX3_greatestDepth dX3_greatestDepth_4 rfl
theorem rX3_greatestDepth_6 (l0 l1 l2 : Option Value) (b0 : Int32) (q : Nat) (σ : dS) : den mX3_greatestDepth 6 [l0, l1, l2] [.ref q, .int b0] σ = if disO σ q 2 = true then ((dcall mX3_guardCount [.ref q] σ).bind fun r => den mX3_greatestDepth 9 [l0, l1, l2] (r.1.toList ++ [.int b0]) r.2) else none := by
  by_cases h : disO σ q 2 = true
  · rw [if_pos h]; exact dn_callV (e := (0, 30, 438)) (as := []) (rest := [.int b0]) eX3_greatestDepth dX3_greatestDepth_6 (by decide +kernel) rfl (by decide +kernel) rfl (dcat_le rfl) (dlen_le rfl) rfl h
  · rw [if_neg h]; exact den_noV (e := (0, 30, 438)) (as := []) (rest := [.int b0]) eX3_greatestDepth dX3_greatestDepth_6 (by decide +kernel) rfl rfl rfl h
theorem rX3_greatestDepth_15 (l0 l1 l2 : Option Value) (a0 : Int32) (b0 : Int32) (q : Nat) (σ : dS) : den mX3_greatestDepth 15 [l0, l1, l2] [.int a0, .ref q, .int b0] σ = if disO σ q 2 = true then ((dcall mX3_depthOf [.ref q, .int a0] σ).bind fun r => den mX3_greatestDepth 18 [l0, l1, l2] (r.1.toList ++ [.int b0]) r.2) else none := by
  by_cases h : disO σ q 2 = true
  · rw [if_pos h]; exact dn_callV (e := (0, 36, 442)) (as := [.int a0]) (rest := [.int b0]) eX3_greatestDepth dX3_greatestDepth_15 (by decide +kernel) rfl (by decide +kernel) rfl (dcat_le rfl) (dlen_le rfl) rfl h
  · rw [if_neg h]; exact den_noV (e := (0, 36, 442)) (as := [.int a0]) (rest := [.int b0]) eX3_greatestDepth dX3_greatestDepth_15 (by decide +kernel) rfl rfl rfl h
set_option maxRecDepth 20000 in
theorem SX3_greatestDepth : (∀ (l0 l1 l2 : Option Value) (st : List Value) (σ : dS), den mX3_greatestDepth 0 [l0, l1, l2] st σ = den mX3_greatestDepth 1 [l0, l1, l2] (.int (nI 0) :: st) σ) ∧
  (∀ (l1 l2 : Option Value) (x : Int32) (y : Nat) (st : List Value) (σ : dS), den mX3_greatestDepth 1 [some (.ref y), l1, l2] (.int x :: st) σ = den mX3_greatestDepth 2 [some (.ref y), some (.int x), l2] st σ) ∧
  (∀ (l0 l1 l2 : Option Value) (st : List Value) (σ : dS), den mX3_greatestDepth 2 [l0, l1, l2] st σ = den mX3_greatestDepth 3 [l0, l1, l2] (.int (nI 0) :: st) σ) ∧
  (∀ (l0 l2 : Option Value) (x : Int32) (y : Int32) (st : List Value) (σ : dS), den mX3_greatestDepth 3 [l0, some (.int y), l2] (.int x :: st) σ = den mX3_greatestDepth 4 [l0, some (.int y), some (.int x)] st σ) ∧
  (∀ (l1 l2 : Option Value) (x : Nat) (st : List Value) (σ : dS), den mX3_greatestDepth 5 [some (.ref x), l1, l2] st σ = den mX3_greatestDepth 6 [some (.ref x), l1, l2] (.ref x :: st) σ) ∧
  (∀ (l0 l1 l2 : Option Value) (b0 : Int32) (q : Nat) (σ : dS), den mX3_greatestDepth 6 [l0, l1, l2] [.ref q, .int b0] σ = if disO σ q 2 = true then ((dcall mX3_guardCount [.ref q] σ).bind fun r => den mX3_greatestDepth 9 [l0, l1, l2] (r.1.toList ++ [.int b0]) r.2) else none) ∧
  (∀ (l0 l1 l2 : Option Value) (x y : Int32) (st : List Value) (σ : dS), den mX3_greatestDepth 9 [l0, l1, l2] (.int y :: .int x :: st) σ = if x < y then den mX3_greatestDepth 12 [l0, l1, l2] st σ else den mX3_greatestDepth 28 [l0, l1, l2] st σ) ∧
  (∀ (l0 l2 : Option Value) (x : Int32) (st : List Value) (σ : dS), den mX3_greatestDepth 12 [l0, some (.int x), l2] st σ = den mX3_greatestDepth 13 [l0, some (.int x), l2] (.int x :: st) σ) ∧
  (∀ (l1 l2 : Option Value) (x : Nat) (st : List Value) (σ : dS), den mX3_greatestDepth 13 [some (.ref x), l1, l2] st σ = den mX3_greatestDepth 14 [some (.ref x), l1, l2] (.ref x :: st) σ) ∧
  (∀ (l0 l1 : Option Value) (x : Int32) (st : List Value) (σ : dS), den mX3_greatestDepth 14 [l0, l1, some (.int x)] st σ = den mX3_greatestDepth 15 [l0, l1, some (.int x)] (.int x :: st) σ) ∧
  (∀ (l0 l1 l2 : Option Value) (a0 : Int32) (b0 : Int32) (q : Nat) (σ : dS), den mX3_greatestDepth 15 [l0, l1, l2] [.int a0, .ref q, .int b0] σ = if disO σ q 2 = true then ((dcall mX3_depthOf [.ref q, .int a0] σ).bind fun r => den mX3_greatestDepth 18 [l0, l1, l2] (r.1.toList ++ [.int b0]) r.2) else none) ∧
  (∀ (l0 l1 l2 : Option Value) (x y : Int32) (σ : dS), den mX3_greatestDepth 18 [l0, l1, l2] [.int y, .int x] σ = den mX3_greatestDepth 21 [l0, l1, l2] [.int (if x < y then y else x)] σ) ∧
  (∀ (l1 l2 : Option Value) (x : Int32) (y : Nat) (st : List Value) (σ : dS), den mX3_greatestDepth 21 [some (.ref y), l1, l2] (.int x :: st) σ = den mX3_greatestDepth 22 [some (.ref y), some (.int x), l2] st σ) ∧
  (∀ (l0 : Option Value) (x : Int32) (y : Int32) (st : List Value) (σ : dS), den mX3_greatestDepth 22 [l0, some (.int y), some (.int x)] st σ = den mX3_greatestDepth 25 [l0, some (.int y), some (.int (x + nI 1))] st σ) ∧
  (∀ (l0 l1 l2 : Option Value) (st : List Value) (σ : dS), den mX3_greatestDepth 25 [l0, l1, l2] st σ = den mX3_greatestDepth 4 [l0, l1, l2] st σ) ∧
  (∀ (l0 l2 : Option Value) (x : Int32) (st : List Value) (σ : dS), den mX3_greatestDepth 28 [l0, some (.int x), l2] st σ = den mX3_greatestDepth 29 [l0, some (.int x), l2] (.int x :: st) σ) ∧
  (∀ (l0 l1 l2 : Option Value) (v : Int32) (σ : dS), den mX3_greatestDepth 29 [l0, l1, l2] [.int v] σ = some (some (.int v), σ)) :=
  ⟨fun l0 l1 l2 st σ => dn_iconst eX3_greatestDepth dX3_greatestDepth_0 kc_iconst_0,
  fun l1 l2 x y st σ => dn_istore_n eX3_greatestDepth dX3_greatestDepth_1 rfl,
  fun l0 l1 l2 st σ => dn_iconst eX3_greatestDepth dX3_greatestDepth_2 kc_iconst_0,
  fun l0 l2 x y st σ => dn_istore_n eX3_greatestDepth dX3_greatestDepth_3 rfl,
  fun l1 l2 x st σ => dn_aload_n eX3_greatestDepth dX3_greatestDepth_5 rfl,
  fun l0 l1 l2 b0 q σ => rX3_greatestDepth_6 l0 l1 l2 b0 q σ,
  fun l0 l1 l2 x y st σ => dn_icmp_ge eX3_greatestDepth dX3_greatestDepth_9 (by decide),
  fun l0 l2 x st σ => dn_iload_n eX3_greatestDepth dX3_greatestDepth_12 rfl,
  fun l1 l2 x st σ => dn_aload_n eX3_greatestDepth dX3_greatestDepth_13 rfl,
  fun l0 l1 x st σ => dn_iload_n eX3_greatestDepth dX3_greatestDepth_14 rfl,
  fun l0 l1 l2 a0 b0 q σ => rX3_greatestDepth_15 l0 l1 l2 a0 b0 q σ,
  fun l0 l1 l2 x y σ => dn_max (e := (5, 0, 454)) eX3_greatestDepth dX3_greatestDepth_18 (by decide +kernel) rfl (by decide) (by decide),
  fun l1 l2 x y st σ => dn_istore_n eX3_greatestDepth dX3_greatestDepth_21 rfl,
  fun l0 x y st σ => dn_iinc (v := nI 1) eX3_greatestDepth dX3_greatestDepth_22 rfl kc_iconst_1 rfl,
  fun l0 l1 l2 st σ => dn_goto eX3_greatestDepth dX3_greatestDepth_25 (by decide),
  fun l0 l2 x st σ => dn_iload_n eX3_greatestDepth dX3_greatestDepth_28 rfl,
  fun l0 l1 l2 v σ => dn_ireturn eX3_greatestDepth dX3_greatestDepth_29 rfl⟩
theorem CX3_isWithin (a0 : Nat) (a1 : Int32) (a2 : Int32) (σ : dS) : dcall mX3_isWithin [.ref a0, .int a1, .int a2] σ = den mX3_isWithin 0 [some (.ref a0), some (.int a1), some (.int a2), none, none] [] σ := dcall_den (by decide) rfl
theorem hX3_isWithin_5 (l0 l1 l2 l3 : Option Value) (x : Int32) (st : List Value) (σ : dS) : den mX3_isWithin 5 [l0, l1, l2, l3, some (.int x)] st σ = den mX3_isWithin 7 [l0, l1, l2, l3, some (.int x)] (.int x :: st) σ := dn_iload eX3_isWithin dX3_isWithin_5 rfl
theorem rX3_isWithin_23 (l0 l1 l2 l3 l4 : Option Value) (a0 : Int32) (q : Nat) (σ : dS) : den mX3_isWithin 23 [l0, l1, l2, l3, l4] [.int a0, .ref q] σ = if disO σ q 2 = true then ((dcall mX3_parentOf [.ref q, .int a0] σ).bind fun r => den mX3_isWithin 26 [l0, l1, l2, l3, l4] (r.1.toList ++ []) r.2) else none := by
  by_cases h : disO σ q 2 = true
  · rw [if_pos h]; exact dn_callV (e := (0, 5, 446)) (as := [.int a0]) (rest := []) eX3_isWithin dX3_isWithin_23 (by decide +kernel) rfl (by decide +kernel) rfl (dcat_le rfl) (dlen_le rfl) rfl h
  · rw [if_neg h]; exact den_noV (e := (0, 5, 446)) (as := [.int a0]) (rest := []) eX3_isWithin dX3_isWithin_23 (by decide +kernel) rfl rfl rfl h
set_option maxRecDepth 20000 in
theorem SX3_isWithin : (∀ (l0 l2 l3 l4 : Option Value) (x : Int32) (st : List Value) (σ : dS), den mX3_isWithin 0 [l0, some (.int x), l2, l3, l4] st σ = den mX3_isWithin 1 [l0, some (.int x), l2, l3, l4] (.int x :: st) σ) ∧
  (∀ (l0 l1 l3 l4 : Option Value) (x : Int32) (y : Int32) (st : List Value) (σ : dS), den mX3_isWithin 1 [l0, l1, some (.int y), l3, l4] (.int x :: st) σ = den mX3_isWithin 2 [l0, l1, some (.int y), some (.int x), l4] st σ) ∧
  (∀ (l0 l1 l2 l3 l4 : Option Value) (st : List Value) (σ : dS), den mX3_isWithin 2 [l0, l1, l2, l3, l4] st σ = den mX3_isWithin 3 [l0, l1, l2, l3, l4] (.int (nI 0) :: st) σ) ∧
  (∀ (l0 l1 l2 l4 : Option Value) (x : Int32) (y : Int32) (st : List Value) (σ : dS), den mX3_isWithin 3 [l0, l1, l2, some (.int y), l4] (.int x :: st) σ = den mX3_isWithin 5 [l0, l1, l2, some (.int y), some (.int x)] st σ) ∧
  (∀ (l0 l1 l2 l3 l4 : Option Value) (st : List Value) (σ : dS), den mX3_isWithin 7 [l0, l1, l2, l3, l4] st σ = den mX3_isWithin 9 [l0, l1, l2, l3, l4] (.int (nI 6) :: st) σ) ∧
  (∀ (l0 l1 l2 l3 l4 : Option Value) (x y : Int32) (st : List Value) (σ : dS), den mX3_isWithin 9 [l0, l1, l2, l3, l4] (.int y :: .int x :: st) σ = if x < y then den mX3_isWithin 12 [l0, l1, l2, l3, l4] st σ else den mX3_isWithin 33 [l0, l1, l2, l3, l4] st σ) ∧
  (∀ (l0 l1 l2 l4 : Option Value) (x : Int32) (st : List Value) (σ : dS), den mX3_isWithin 12 [l0, l1, l2, some (.int x), l4] st σ = den mX3_isWithin 13 [l0, l1, l2, some (.int x), l4] (.int x :: st) σ) ∧
  (∀ (l0 l1 l2 l3 l4 : Option Value) (x : Int32) (st : List Value) (σ : dS), den mX3_isWithin 13 [l0, l1, l2, l3, l4] (.int x :: st) σ = if 0 < x then den mX3_isWithin 16 [l0, l1, l2, l3, l4] st σ else den mX3_isWithin 33 [l0, l1, l2, l3, l4] st σ) ∧
  (∀ (l0 l1 l2 l4 : Option Value) (x : Int32) (st : List Value) (σ : dS), den mX3_isWithin 16 [l0, l1, l2, some (.int x), l4] st σ = den mX3_isWithin 17 [l0, l1, l2, some (.int x), l4] (.int x :: st) σ) ∧
  (∀ (l0 l1 l3 l4 : Option Value) (x : Int32) (st : List Value) (σ : dS), den mX3_isWithin 17 [l0, l1, some (.int x), l3, l4] st σ = den mX3_isWithin 18 [l0, l1, some (.int x), l3, l4] (.int x :: st) σ) ∧
  (∀ (l0 l1 l2 l3 l4 : Option Value) (x y : Int32) (st : List Value) (σ : dS), den mX3_isWithin 18 [l0, l1, l2, l3, l4] (.int y :: .int x :: st) σ = if x = y then den mX3_isWithin 33 [l0, l1, l2, l3, l4] st σ else den mX3_isWithin 21 [l0, l1, l2, l3, l4] st σ) ∧
  (∀ (l1 l2 l3 l4 : Option Value) (x : Nat) (st : List Value) (σ : dS), den mX3_isWithin 21 [some (.ref x), l1, l2, l3, l4] st σ = den mX3_isWithin 22 [some (.ref x), l1, l2, l3, l4] (.ref x :: st) σ) ∧
  (∀ (l0 l1 l2 l4 : Option Value) (x : Int32) (st : List Value) (σ : dS), den mX3_isWithin 22 [l0, l1, l2, some (.int x), l4] st σ = den mX3_isWithin 23 [l0, l1, l2, some (.int x), l4] (.int x :: st) σ) ∧
  (∀ (l0 l1 l2 l3 l4 : Option Value) (a0 : Int32) (q : Nat) (σ : dS), den mX3_isWithin 23 [l0, l1, l2, l3, l4] [.int a0, .ref q] σ = if disO σ q 2 = true then ((dcall mX3_parentOf [.ref q, .int a0] σ).bind fun r => den mX3_isWithin 26 [l0, l1, l2, l3, l4] (r.1.toList ++ []) r.2) else none) ∧
  (∀ (l0 l1 l3 l4 : Option Value) (x : Int32) (y : Int32) (st : List Value) (σ : dS), den mX3_isWithin 26 [l0, l1, some (.int y), l3, l4] (.int x :: st) σ = den mX3_isWithin 27 [l0, l1, some (.int y), some (.int x), l4] st σ) ∧
  (∀ (l0 l1 l2 : Option Value) (x : Int32) (y : Int32) (st : List Value) (σ : dS), den mX3_isWithin 27 [l0, l1, l2, some (.int y), some (.int x)] st σ = den mX3_isWithin 30 [l0, l1, l2, some (.int y), some (.int (x + nI 1))] st σ) ∧
  (∀ (l0 l1 l2 l3 l4 : Option Value) (st : List Value) (σ : dS), den mX3_isWithin 30 [l0, l1, l2, l3, l4] st σ = den mX3_isWithin 5 [l0, l1, l2, l3, l4] st σ) ∧
  (∀ (l0 l1 l2 l4 : Option Value) (x : Int32) (st : List Value) (σ : dS), den mX3_isWithin 33 [l0, l1, l2, some (.int x), l4] st σ = den mX3_isWithin 34 [l0, l1, l2, some (.int x), l4] (.int x :: st) σ) ∧
  (∀ (l0 l1 l3 l4 : Option Value) (x : Int32) (st : List Value) (σ : dS), den mX3_isWithin 34 [l0, l1, some (.int x), l3, l4] st σ = den mX3_isWithin 35 [l0, l1, some (.int x), l3, l4] (.int x :: st) σ) ∧
  (∀ (l0 l1 l2 l3 l4 : Option Value) (x y : Int32) (st : List Value) (σ : dS), den mX3_isWithin 35 [l0, l1, l2, l3, l4] (.int y :: .int x :: st) σ = if x = y then den mX3_isWithin 38 [l0, l1, l2, l3, l4] st σ else den mX3_isWithin 42 [l0, l1, l2, l3, l4] st σ) ∧
  (∀ (l0 l1 l2 l3 l4 : Option Value) (st : List Value) (σ : dS), den mX3_isWithin 38 [l0, l1, l2, l3, l4] st σ = den mX3_isWithin 39 [l0, l1, l2, l3, l4] (.int (nI 1) :: st) σ) ∧
  (∀ (l0 l1 l2 l3 l4 : Option Value) (st : List Value) (σ : dS), den mX3_isWithin 39 [l0, l1, l2, l3, l4] st σ = den mX3_isWithin 43 [l0, l1, l2, l3, l4] st σ) ∧
  (∀ (l0 l1 l2 l3 l4 : Option Value) (st : List Value) (σ : dS), den mX3_isWithin 42 [l0, l1, l2, l3, l4] st σ = den mX3_isWithin 43 [l0, l1, l2, l3, l4] (.int (nI 0) :: st) σ) ∧
  (∀ (l0 l1 l2 l3 l4 : Option Value) (v : Int32) (σ : dS), den mX3_isWithin 43 [l0, l1, l2, l3, l4] [.int v] σ = if v = 0 ∨ v = 1 then some (some (.int v), σ) else none) :=
  ⟨fun l0 l2 l3 l4 x st σ => dn_iload_n eX3_isWithin dX3_isWithin_0 rfl,
  fun l0 l1 l3 l4 x y st σ => dn_istore_n eX3_isWithin dX3_isWithin_1 rfl,
  fun l0 l1 l2 l3 l4 st σ => dn_iconst eX3_isWithin dX3_isWithin_2 kc_iconst_0,
  fun l0 l1 l2 l4 x y st σ => dn_istore eX3_isWithin dX3_isWithin_3 rfl,
  fun l0 l1 l2 l3 l4 st σ => dn_bipush eX3_isWithin dX3_isWithin_7 kc_bipush_6,
  fun l0 l1 l2 l3 l4 x y st σ => dn_icmp_ge eX3_isWithin dX3_isWithin_9 (by decide),
  fun l0 l1 l2 l4 x st σ => dn_iload_n eX3_isWithin dX3_isWithin_12 rfl,
  fun l0 l1 l2 l3 l4 x st σ => dn_if_le eX3_isWithin dX3_isWithin_13 (by decide),
  fun l0 l1 l2 l4 x st σ => dn_iload_n eX3_isWithin dX3_isWithin_16 rfl,
  fun l0 l1 l3 l4 x st σ => dn_iload_n eX3_isWithin dX3_isWithin_17 rfl,
  fun l0 l1 l2 l3 l4 x y st σ => dn_icmp_eq eX3_isWithin dX3_isWithin_18 (by decide),
  fun l1 l2 l3 l4 x st σ => dn_aload_n eX3_isWithin dX3_isWithin_21 rfl,
  fun l0 l1 l2 l4 x st σ => dn_iload_n eX3_isWithin dX3_isWithin_22 rfl,
  fun l0 l1 l2 l3 l4 a0 q σ => rX3_isWithin_23 l0 l1 l2 l3 l4 a0 q σ,
  fun l0 l1 l3 l4 x y st σ => dn_istore_n eX3_isWithin dX3_isWithin_26 rfl,
  fun l0 l1 l2 x y st σ => dn_iinc (v := nI 1) eX3_isWithin dX3_isWithin_27 rfl kc_iconst_1 rfl,
  fun l0 l1 l2 l3 l4 st σ => dn_goto eX3_isWithin dX3_isWithin_30 (by decide),
  fun l0 l1 l2 l4 x st σ => dn_iload_n eX3_isWithin dX3_isWithin_33 rfl,
  fun l0 l1 l3 l4 x st σ => dn_iload_n eX3_isWithin dX3_isWithin_34 rfl,
  fun l0 l1 l2 l3 l4 x y st σ => dn_icmp_ne eX3_isWithin dX3_isWithin_35 (by decide),
  fun l0 l1 l2 l3 l4 st σ => dn_iconst eX3_isWithin dX3_isWithin_38 kc_iconst_1,
  fun l0 l1 l2 l3 l4 st σ => dn_goto eX3_isWithin dX3_isWithin_39 (by decide),
  fun l0 l1 l2 l3 l4 st σ => dn_iconst eX3_isWithin dX3_isWithin_42 kc_iconst_0,
  fun l0 l1 l2 l3 l4 v σ => dn_zreturn eX3_isWithin dX3_isWithin_43 rfl⟩
theorem CX3_howManyUnder (a0 : Nat) (a1 : Int32) (σ : dS) : dcall mX3_howManyUnder [.ref a0, .int a1] σ = den mX3_howManyUnder 0 [some (.ref a0), some (.int a1), none, none] [] σ := dcall_den (by decide) rfl
theorem hX3_howManyUnder_4 (l0 l1 l2 : Option Value) (x : Int32) (st : List Value) (σ : dS) : den mX3_howManyUnder 4 [l0, l1, l2, some (.int x)] st σ = den mX3_howManyUnder 5 [l0, l1, l2, some (.int x)] (.int x :: st) σ := dn_iload_n eX3_howManyUnder dX3_howManyUnder_4 rfl
set_option maxRecDepth 20000 in
theorem SX3_howManyUnder : (∀ (l0 l1 l2 l3 : Option Value) (st : List Value) (σ : dS), den mX3_howManyUnder 0 [l0, l1, l2, l3] st σ = den mX3_howManyUnder 1 [l0, l1, l2, l3] (.int (nI 0) :: st) σ) ∧
  (∀ (l0 l2 l3 : Option Value) (x : Int32) (y : Int32) (st : List Value) (σ : dS), den mX3_howManyUnder 1 [l0, some (.int y), l2, l3] (.int x :: st) σ = den mX3_howManyUnder 2 [l0, some (.int y), some (.int x), l3] st σ) ∧
  (∀ (l0 l1 l2 l3 : Option Value) (st : List Value) (σ : dS), den mX3_howManyUnder 2 [l0, l1, l2, l3] st σ = den mX3_howManyUnder 3 [l0, l1, l2, l3] (.int (nI 0) :: st) σ) ∧
  (∀ (l0 l1 l3 : Option Value) (x : Int32) (y : Int32) (st : List Value) (σ : dS), den mX3_howManyUnder 3 [l0, l1, some (.int y), l3] (.int x :: st) σ = den mX3_howManyUnder 4 [l0, l1, some (.int y), some (.int x)] st σ) ∧
  (∀ (l1 l2 l3 : Option Value) (x : Nat) (st : List Value) (σ : dS), den mX3_howManyUnder 5 [some (.ref x), l1, l2, l3] st σ = den mX3_howManyUnder 6 [some (.ref x), l1, l2, l3] (.ref x :: st) σ) ∧
  (∀ (l0 l1 l2 l3 : Option Value) (q : Nat) (st : List Value) (σ : dS), den mX3_howManyUnder 6 [l0, l1, l2, l3] (.ref q :: st) σ = (dget σ q 2 7).bind fun v => den mX3_howManyUnder 9 [l0, l1, l2, l3] (v :: st) σ) ∧
  (∀ (l0 l1 l2 l3 : Option Value) (x y : Int32) (st : List Value) (σ : dS), den mX3_howManyUnder 9 [l0, l1, l2, l3] (.int y :: .int x :: st) σ = if x < y then den mX3_howManyUnder 12 [l0, l1, l2, l3] st σ else den mX3_howManyUnder 39 [l0, l1, l2, l3] st σ) ∧
  (∀ (l0 l1 l3 : Option Value) (x : Int32) (st : List Value) (σ : dS), den mX3_howManyUnder 12 [l0, l1, some (.int x), l3] st σ = den mX3_howManyUnder 13 [l0, l1, some (.int x), l3] (.int x :: st) σ) ∧
  (∀ (l1 l2 l3 : Option Value) (x : Nat) (st : List Value) (σ : dS), den mX3_howManyUnder 13 [some (.ref x), l1, l2, l3] st σ = den mX3_howManyUnder 14 [some (.ref x), l1, l2, l3] (.ref x :: st) σ) ∧
  (∀ (l0 l1 l2 l3 : Option Value) (q : Nat) (st : List Value) (σ : dS), den mX3_howManyUnder 14 [l0, l1, l2, l3] (.ref q :: st) σ = (dget σ q 2 4).bind fun v => den mX3_howManyUnder 17 [l0, l1, l2, l3] (v :: st) σ) ∧
  (∀ (l0 l1 l2 : Option Value) (x : Int32) (st : List Value) (σ : dS), den mX3_howManyUnder 17 [l0, l1, l2, some (.int x)] st σ = den mX3_howManyUnder 18 [l0, l1, l2, some (.int x)] (.int x :: st) σ) ∧
  (∀ (l0 l1 l2 l3 : Option Value) (q : Nat) (i : Int32) (st : List Value) (σ : dS), den mX3_howManyUnder 18 [l0, l1, l2, l3] (.int i :: .ref q :: st) σ = if q ≤ dN then (dald σ q 0 i).bind (fun v => den mX3_howManyUnder 19 [l0, l1, l2, l3] (.int v :: st) σ) else none) ∧
  (∀ (l0 l2 l3 : Option Value) (x : Int32) (st : List Value) (σ : dS), den mX3_howManyUnder 19 [l0, some (.int x), l2, l3] st σ = den mX3_howManyUnder 20 [l0, some (.int x), l2, l3] (.int x :: st) σ) ∧
  (∀ (l0 l1 l2 l3 : Option Value) (x y : Int32) (st : List Value) (σ : dS), den mX3_howManyUnder 20 [l0, l1, l2, l3] (.int y :: .int x :: st) σ = if x = y then den mX3_howManyUnder 23 [l0, l1, l2, l3] st σ else den mX3_howManyUnder 27 [l0, l1, l2, l3] st σ) ∧
  (∀ (l0 l1 l2 l3 : Option Value) (st : List Value) (σ : dS), den mX3_howManyUnder 23 [l0, l1, l2, l3] st σ = den mX3_howManyUnder 24 [l0, l1, l2, l3] (.int (nI 1) :: st) σ) ∧
  (∀ (l0 l1 l2 l3 : Option Value) (st : List Value) (σ : dS), den mX3_howManyUnder 24 [l0, l1, l2, l3] st σ = den mX3_howManyUnder 28 [l0, l1, l2, l3] st σ) ∧
  (∀ (l0 l1 l2 l3 : Option Value) (st : List Value) (σ : dS), den mX3_howManyUnder 27 [l0, l1, l2, l3] st σ = den mX3_howManyUnder 28 [l0, l1, l2, l3] (.int (nI 0) :: st) σ) ∧
  (∀ (l0 l1 l2 l3 : Option Value) (a0 : Int32) (b0 : Int32) (σ : dS), den mX3_howManyUnder 28 [l0, l1, l2, l3] [.int a0, .int b0] σ = (dcall mX6_oneIf [.int a0] σ).bind fun r => den mX3_howManyUnder 31 [l0, l1, l2, l3] (r.1.toList ++ [.int b0]) r.2) ∧
  (∀ (l0 l1 l2 l3 : Option Value) (x y : Int32) (st : List Value) (σ : dS), den mX3_howManyUnder 31 [l0, l1, l2, l3] (.int y :: .int x :: st) σ = den mX3_howManyUnder 32 [l0, l1, l2, l3] (.int (x + y) :: st) σ) ∧
  (∀ (l0 l2 l3 : Option Value) (x : Int32) (y : Int32) (st : List Value) (σ : dS), den mX3_howManyUnder 32 [l0, some (.int y), l2, l3] (.int x :: st) σ = den mX3_howManyUnder 33 [l0, some (.int y), some (.int x), l3] st σ) ∧
  (∀ (l0 l1 : Option Value) (x : Int32) (y : Int32) (st : List Value) (σ : dS), den mX3_howManyUnder 33 [l0, l1, some (.int y), some (.int x)] st σ = den mX3_howManyUnder 36 [l0, l1, some (.int y), some (.int (x + nI 1))] st σ) ∧
  (∀ (l0 l1 l2 l3 : Option Value) (st : List Value) (σ : dS), den mX3_howManyUnder 36 [l0, l1, l2, l3] st σ = den mX3_howManyUnder 4 [l0, l1, l2, l3] st σ) ∧
  (∀ (l0 l1 l3 : Option Value) (x : Int32) (st : List Value) (σ : dS), den mX3_howManyUnder 39 [l0, l1, some (.int x), l3] st σ = den mX3_howManyUnder 40 [l0, l1, some (.int x), l3] (.int x :: st) σ) ∧
  (∀ (l0 l1 l2 l3 : Option Value) (v : Int32) (σ : dS), den mX3_howManyUnder 40 [l0, l1, l2, l3] [.int v] σ = some (some (.int v), σ)) :=
  ⟨fun l0 l1 l2 l3 st σ => dn_iconst eX3_howManyUnder dX3_howManyUnder_0 kc_iconst_0,
  fun l0 l2 l3 x y st σ => dn_istore_n eX3_howManyUnder dX3_howManyUnder_1 rfl,
  fun l0 l1 l2 l3 st σ => dn_iconst eX3_howManyUnder dX3_howManyUnder_2 kc_iconst_0,
  fun l0 l1 l3 x y st σ => dn_istore_n eX3_howManyUnder dX3_howManyUnder_3 rfl,
  fun l1 l2 l3 x st σ => dn_aload_n eX3_howManyUnder dX3_howManyUnder_5 rfl,
  fun l0 l1 l2 l3 q st σ => dn_getfield (f := (2, 7, 109)) eX3_howManyUnder dX3_howManyUnder_6 (by decide +kernel),
  fun l0 l1 l2 l3 x y st σ => dn_icmp_ge eX3_howManyUnder dX3_howManyUnder_9 (by decide),
  fun l0 l1 l3 x st σ => dn_iload_n eX3_howManyUnder dX3_howManyUnder_12 rfl,
  fun l1 l2 l3 x st σ => dn_aload_n eX3_howManyUnder dX3_howManyUnder_13 rfl,
  fun l0 l1 l2 l3 q st σ => dn_getfield (f := (2, 4, 100)) eX3_howManyUnder dX3_howManyUnder_14 (by decide +kernel),
  fun l0 l1 l2 x st σ => dn_iload_n eX3_howManyUnder dX3_howManyUnder_17 rfl,
  fun l0 l1 l2 l3 q i st σ => dn_iaload eX3_howManyUnder dX3_howManyUnder_18,
  fun l0 l2 l3 x st σ => dn_iload_n eX3_howManyUnder dX3_howManyUnder_19 rfl,
  fun l0 l1 l2 l3 x y st σ => dn_icmp_ne eX3_howManyUnder dX3_howManyUnder_20 (by decide),
  fun l0 l1 l2 l3 st σ => dn_iconst eX3_howManyUnder dX3_howManyUnder_23 kc_iconst_1,
  fun l0 l1 l2 l3 st σ => dn_goto eX3_howManyUnder dX3_howManyUnder_24 (by decide),
  fun l0 l1 l2 l3 st σ => dn_iconst eX3_howManyUnder dX3_howManyUnder_27 kc_iconst_0,
  fun l0 l1 l2 l3 a0 b0 σ => dn_callS (e := (2, 9, 521)) (as := [.int a0]) (rest := [.int b0]) eX3_howManyUnder dX3_howManyUnder_28 (by decide +kernel) (Or.inr rfl) (by decide +kernel) rfl (dcat_le rfl) (dlen_le rfl) rfl,
  fun l0 l1 l2 l3 x y st σ => dn_iadd eX3_howManyUnder dX3_howManyUnder_31,
  fun l0 l2 l3 x y st σ => dn_istore_n eX3_howManyUnder dX3_howManyUnder_32 rfl,
  fun l0 l1 x y st σ => dn_iinc (v := nI 1) eX3_howManyUnder dX3_howManyUnder_33 rfl kc_iconst_1 rfl,
  fun l0 l1 l2 l3 st σ => dn_goto eX3_howManyUnder dX3_howManyUnder_36 (by decide),
  fun l0 l1 l3 x st σ => dn_iload_n eX3_howManyUnder dX3_howManyUnder_39 rfl,
  fun l0 l1 l2 l3 v σ => dn_ireturn eX3_howManyUnder dX3_howManyUnder_40 rfl⟩
theorem CX3_howManyOf (a0 : Nat) (a1 : Int32) (σ : dS) : dcall mX3_howManyOf [.ref a0, .int a1] σ = den mX3_howManyOf 0 [some (.ref a0), some (.int a1), none, none] [] σ := dcall_den (by decide) rfl
theorem hX3_howManyOf_4 (l0 l1 l2 : Option Value) (x : Int32) (st : List Value) (σ : dS) : den mX3_howManyOf 4 [l0, l1, l2, some (.int x)] st σ = den mX3_howManyOf 5 [l0, l1, l2, some (.int x)] (.int x :: st) σ := dn_iload_n eX3_howManyOf dX3_howManyOf_4 rfl
set_option maxRecDepth 20000 in
theorem SX3_howManyOf : (∀ (l0 l1 l2 l3 : Option Value) (st : List Value) (σ : dS), den mX3_howManyOf 0 [l0, l1, l2, l3] st σ = den mX3_howManyOf 1 [l0, l1, l2, l3] (.int (nI 0) :: st) σ) ∧
  (∀ (l0 l2 l3 : Option Value) (x : Int32) (y : Int32) (st : List Value) (σ : dS), den mX3_howManyOf 1 [l0, some (.int y), l2, l3] (.int x :: st) σ = den mX3_howManyOf 2 [l0, some (.int y), some (.int x), l3] st σ) ∧
  (∀ (l0 l1 l2 l3 : Option Value) (st : List Value) (σ : dS), den mX3_howManyOf 2 [l0, l1, l2, l3] st σ = den mX3_howManyOf 3 [l0, l1, l2, l3] (.int (nI 0) :: st) σ) ∧
  (∀ (l0 l1 l3 : Option Value) (x : Int32) (y : Int32) (st : List Value) (σ : dS), den mX3_howManyOf 3 [l0, l1, some (.int y), l3] (.int x :: st) σ = den mX3_howManyOf 4 [l0, l1, some (.int y), some (.int x)] st σ) ∧
  (∀ (l1 l2 l3 : Option Value) (x : Nat) (st : List Value) (σ : dS), den mX3_howManyOf 5 [some (.ref x), l1, l2, l3] st σ = den mX3_howManyOf 6 [some (.ref x), l1, l2, l3] (.ref x :: st) σ) ∧
  (∀ (l0 l1 l2 l3 : Option Value) (q : Nat) (st : List Value) (σ : dS), den mX3_howManyOf 6 [l0, l1, l2, l3] (.ref q :: st) σ = (dget σ q 2 7).bind fun v => den mX3_howManyOf 9 [l0, l1, l2, l3] (v :: st) σ) ∧
  (∀ (l0 l1 l2 l3 : Option Value) (x y : Int32) (st : List Value) (σ : dS), den mX3_howManyOf 9 [l0, l1, l2, l3] (.int y :: .int x :: st) σ = if x < y then den mX3_howManyOf 12 [l0, l1, l2, l3] st σ else den mX3_howManyOf 39 [l0, l1, l2, l3] st σ) ∧
  (∀ (l0 l1 l3 : Option Value) (x : Int32) (st : List Value) (σ : dS), den mX3_howManyOf 12 [l0, l1, some (.int x), l3] st σ = den mX3_howManyOf 13 [l0, l1, some (.int x), l3] (.int x :: st) σ) ∧
  (∀ (l1 l2 l3 : Option Value) (x : Nat) (st : List Value) (σ : dS), den mX3_howManyOf 13 [some (.ref x), l1, l2, l3] st σ = den mX3_howManyOf 14 [some (.ref x), l1, l2, l3] (.ref x :: st) σ) ∧
  (∀ (l0 l1 l2 l3 : Option Value) (q : Nat) (st : List Value) (σ : dS), den mX3_howManyOf 14 [l0, l1, l2, l3] (.ref q :: st) σ = (dget σ q 2 0).bind fun v => den mX3_howManyOf 17 [l0, l1, l2, l3] (v :: st) σ) ∧
  (∀ (l0 l1 l2 : Option Value) (x : Int32) (st : List Value) (σ : dS), den mX3_howManyOf 17 [l0, l1, l2, some (.int x)] st σ = den mX3_howManyOf 18 [l0, l1, l2, some (.int x)] (.int x :: st) σ) ∧
  (∀ (l0 l1 l2 l3 : Option Value) (q : Nat) (i : Int32) (st : List Value) (σ : dS), den mX3_howManyOf 18 [l0, l1, l2, l3] (.int i :: .ref q :: st) σ = if q ≤ dN then (dald σ q 0 i).bind (fun v => den mX3_howManyOf 19 [l0, l1, l2, l3] (.int v :: st) σ) else none) ∧
  (∀ (l0 l2 l3 : Option Value) (x : Int32) (st : List Value) (σ : dS), den mX3_howManyOf 19 [l0, some (.int x), l2, l3] st σ = den mX3_howManyOf 20 [l0, some (.int x), l2, l3] (.int x :: st) σ) ∧
  (∀ (l0 l1 l2 l3 : Option Value) (x y : Int32) (st : List Value) (σ : dS), den mX3_howManyOf 20 [l0, l1, l2, l3] (.int y :: .int x :: st) σ = if x = y then den mX3_howManyOf 23 [l0, l1, l2, l3] st σ else den mX3_howManyOf 27 [l0, l1, l2, l3] st σ) ∧
  (∀ (l0 l1 l2 l3 : Option Value) (st : List Value) (σ : dS), den mX3_howManyOf 23 [l0, l1, l2, l3] st σ = den mX3_howManyOf 24 [l0, l1, l2, l3] (.int (nI 1) :: st) σ) ∧
  (∀ (l0 l1 l2 l3 : Option Value) (st : List Value) (σ : dS), den mX3_howManyOf 24 [l0, l1, l2, l3] st σ = den mX3_howManyOf 28 [l0, l1, l2, l3] st σ) ∧
  (∀ (l0 l1 l2 l3 : Option Value) (st : List Value) (σ : dS), den mX3_howManyOf 27 [l0, l1, l2, l3] st σ = den mX3_howManyOf 28 [l0, l1, l2, l3] (.int (nI 0) :: st) σ) ∧
  (∀ (l0 l1 l2 l3 : Option Value) (a0 : Int32) (b0 : Int32) (σ : dS), den mX3_howManyOf 28 [l0, l1, l2, l3] [.int a0, .int b0] σ = (dcall mX6_oneIf [.int a0] σ).bind fun r => den mX3_howManyOf 31 [l0, l1, l2, l3] (r.1.toList ++ [.int b0]) r.2) ∧
  (∀ (l0 l1 l2 l3 : Option Value) (x y : Int32) (st : List Value) (σ : dS), den mX3_howManyOf 31 [l0, l1, l2, l3] (.int y :: .int x :: st) σ = den mX3_howManyOf 32 [l0, l1, l2, l3] (.int (x + y) :: st) σ) ∧
  (∀ (l0 l2 l3 : Option Value) (x : Int32) (y : Int32) (st : List Value) (σ : dS), den mX3_howManyOf 32 [l0, some (.int y), l2, l3] (.int x :: st) σ = den mX3_howManyOf 33 [l0, some (.int y), some (.int x), l3] st σ) ∧
  (∀ (l0 l1 : Option Value) (x : Int32) (y : Int32) (st : List Value) (σ : dS), den mX3_howManyOf 33 [l0, l1, some (.int y), some (.int x)] st σ = den mX3_howManyOf 36 [l0, l1, some (.int y), some (.int (x + nI 1))] st σ) ∧
  (∀ (l0 l1 l2 l3 : Option Value) (st : List Value) (σ : dS), den mX3_howManyOf 36 [l0, l1, l2, l3] st σ = den mX3_howManyOf 4 [l0, l1, l2, l3] st σ) ∧
  (∀ (l0 l1 l3 : Option Value) (x : Int32) (st : List Value) (σ : dS), den mX3_howManyOf 39 [l0, l1, some (.int x), l3] st σ = den mX3_howManyOf 40 [l0, l1, some (.int x), l3] (.int x :: st) σ) ∧
  (∀ (l0 l1 l2 l3 : Option Value) (v : Int32) (σ : dS), den mX3_howManyOf 40 [l0, l1, l2, l3] [.int v] σ = some (some (.int v), σ)) :=
  ⟨fun l0 l1 l2 l3 st σ => dn_iconst eX3_howManyOf dX3_howManyOf_0 kc_iconst_0,
  fun l0 l2 l3 x y st σ => dn_istore_n eX3_howManyOf dX3_howManyOf_1 rfl,
  fun l0 l1 l2 l3 st σ => dn_iconst eX3_howManyOf dX3_howManyOf_2 kc_iconst_0,
  fun l0 l1 l3 x y st σ => dn_istore_n eX3_howManyOf dX3_howManyOf_3 rfl,
  fun l1 l2 l3 x st σ => dn_aload_n eX3_howManyOf dX3_howManyOf_5 rfl,
  fun l0 l1 l2 l3 q st σ => dn_getfield (f := (2, 7, 109)) eX3_howManyOf dX3_howManyOf_6 (by decide +kernel),
  fun l0 l1 l2 l3 x y st σ => dn_icmp_ge eX3_howManyOf dX3_howManyOf_9 (by decide),
  fun l0 l1 l3 x st σ => dn_iload_n eX3_howManyOf dX3_howManyOf_12 rfl,
  fun l1 l2 l3 x st σ => dn_aload_n eX3_howManyOf dX3_howManyOf_13 rfl,
  fun l0 l1 l2 l3 q st σ => dn_getfield (f := (2, 0, 84)) eX3_howManyOf dX3_howManyOf_14 (by decide +kernel),
  fun l0 l1 l2 x st σ => dn_iload_n eX3_howManyOf dX3_howManyOf_17 rfl,
  fun l0 l1 l2 l3 q i st σ => dn_iaload eX3_howManyOf dX3_howManyOf_18,
  fun l0 l2 l3 x st σ => dn_iload_n eX3_howManyOf dX3_howManyOf_19 rfl,
  fun l0 l1 l2 l3 x y st σ => dn_icmp_ne eX3_howManyOf dX3_howManyOf_20 (by decide),
  fun l0 l1 l2 l3 st σ => dn_iconst eX3_howManyOf dX3_howManyOf_23 kc_iconst_1,
  fun l0 l1 l2 l3 st σ => dn_goto eX3_howManyOf dX3_howManyOf_24 (by decide),
  fun l0 l1 l2 l3 st σ => dn_iconst eX3_howManyOf dX3_howManyOf_27 kc_iconst_0,
  fun l0 l1 l2 l3 a0 b0 σ => dn_callS (e := (2, 9, 521)) (as := [.int a0]) (rest := [.int b0]) eX3_howManyOf dX3_howManyOf_28 (by decide +kernel) (Or.inr rfl) (by decide +kernel) rfl (dcat_le rfl) (dlen_le rfl) rfl,
  fun l0 l1 l2 l3 x y st σ => dn_iadd eX3_howManyOf dX3_howManyOf_31,
  fun l0 l2 l3 x y st σ => dn_istore_n eX3_howManyOf dX3_howManyOf_32 rfl,
  fun l0 l1 x y st σ => dn_iinc (v := nI 1) eX3_howManyOf dX3_howManyOf_33 rfl kc_iconst_1 rfl,
  fun l0 l1 l2 l3 st σ => dn_goto eX3_howManyOf dX3_howManyOf_36 (by decide),
  fun l0 l1 l3 x st σ => dn_iload_n eX3_howManyOf dX3_howManyOf_39 rfl,
  fun l0 l1 l2 l3 v σ => dn_ireturn eX3_howManyOf dX3_howManyOf_40 rfl⟩
theorem CX3_secondsOf (a0 : Nat) (a1 : Int32) (σ : dS) : dcall mX3_secondsOf [.ref a0, .int a1] σ = den mX3_secondsOf 0 [some (.ref a0), some (.int a1), none, none] [] σ := dcall_den (by decide) rfl
theorem hX3_secondsOf_4 (l0 l1 l2 : Option Value) (x : Int32) (st : List Value) (σ : dS) : den mX3_secondsOf 4 [l0, l1, l2, some (.int x)] st σ = den mX3_secondsOf 5 [l0, l1, l2, some (.int x)] (.int x :: st) σ := dn_iload_n eX3_secondsOf dX3_secondsOf_4 rfl
set_option maxRecDepth 20000 in
theorem SX3_secondsOf : (∀ (l0 l1 l2 l3 : Option Value) (st : List Value) (σ : dS), den mX3_secondsOf 0 [l0, l1, l2, l3] st σ = den mX3_secondsOf 1 [l0, l1, l2, l3] (.int (nI 0) :: st) σ) ∧
  (∀ (l0 l2 l3 : Option Value) (x : Int32) (y : Int32) (st : List Value) (σ : dS), den mX3_secondsOf 1 [l0, some (.int y), l2, l3] (.int x :: st) σ = den mX3_secondsOf 2 [l0, some (.int y), some (.int x), l3] st σ) ∧
  (∀ (l0 l1 l2 l3 : Option Value) (st : List Value) (σ : dS), den mX3_secondsOf 2 [l0, l1, l2, l3] st σ = den mX3_secondsOf 3 [l0, l1, l2, l3] (.int (nI 0) :: st) σ) ∧
  (∀ (l0 l1 l3 : Option Value) (x : Int32) (y : Int32) (st : List Value) (σ : dS), den mX3_secondsOf 3 [l0, l1, some (.int y), l3] (.int x :: st) σ = den mX3_secondsOf 4 [l0, l1, some (.int y), some (.int x)] st σ) ∧
  (∀ (l1 l2 l3 : Option Value) (x : Nat) (st : List Value) (σ : dS), den mX3_secondsOf 5 [some (.ref x), l1, l2, l3] st σ = den mX3_secondsOf 6 [some (.ref x), l1, l2, l3] (.ref x :: st) σ) ∧
  (∀ (l0 l1 l2 l3 : Option Value) (q : Nat) (st : List Value) (σ : dS), den mX3_secondsOf 6 [l0, l1, l2, l3] (.ref q :: st) σ = (dget σ q 2 7).bind fun v => den mX3_secondsOf 9 [l0, l1, l2, l3] (v :: st) σ) ∧
  (∀ (l0 l1 l2 l3 : Option Value) (x y : Int32) (st : List Value) (σ : dS), den mX3_secondsOf 9 [l0, l1, l2, l3] (.int y :: .int x :: st) σ = if x < y then den mX3_secondsOf 12 [l0, l1, l2, l3] st σ else den mX3_secondsOf 41 [l0, l1, l2, l3] st σ) ∧
  (∀ (l0 l1 l3 : Option Value) (x : Int32) (st : List Value) (σ : dS), den mX3_secondsOf 12 [l0, l1, some (.int x), l3] st σ = den mX3_secondsOf 13 [l0, l1, some (.int x), l3] (.int x :: st) σ) ∧
  (∀ (l1 l2 l3 : Option Value) (x : Nat) (st : List Value) (σ : dS), den mX3_secondsOf 13 [some (.ref x), l1, l2, l3] st σ = den mX3_secondsOf 14 [some (.ref x), l1, l2, l3] (.ref x :: st) σ) ∧
  (∀ (l0 l1 l2 l3 : Option Value) (q : Nat) (st : List Value) (σ : dS), den mX3_secondsOf 14 [l0, l1, l2, l3] (.ref q :: st) σ = (dget σ q 2 0).bind fun v => den mX3_secondsOf 17 [l0, l1, l2, l3] (v :: st) σ) ∧
  (∀ (l0 l1 l2 : Option Value) (x : Int32) (st : List Value) (σ : dS), den mX3_secondsOf 17 [l0, l1, l2, some (.int x)] st σ = den mX3_secondsOf 18 [l0, l1, l2, some (.int x)] (.int x :: st) σ) ∧
  (∀ (l0 l1 l2 l3 : Option Value) (q : Nat) (i : Int32) (st : List Value) (σ : dS), den mX3_secondsOf 18 [l0, l1, l2, l3] (.int i :: .ref q :: st) σ = if q ≤ dN then (dald σ q 0 i).bind (fun v => den mX3_secondsOf 19 [l0, l1, l2, l3] (.int v :: st) σ) else none) ∧
  (∀ (l0 l2 l3 : Option Value) (x : Int32) (st : List Value) (σ : dS), den mX3_secondsOf 19 [l0, some (.int x), l2, l3] st σ = den mX3_secondsOf 20 [l0, some (.int x), l2, l3] (.int x :: st) σ) ∧
  (∀ (l0 l1 l2 l3 : Option Value) (x y : Int32) (st : List Value) (σ : dS), den mX3_secondsOf 20 [l0, l1, l2, l3] (.int y :: .int x :: st) σ = if x = y then den mX3_secondsOf 23 [l0, l1, l2, l3] st σ else den mX3_secondsOf 32 [l0, l1, l2, l3] st σ) ∧
  (∀ (l1 l2 l3 : Option Value) (x : Nat) (st : List Value) (σ : dS), den mX3_secondsOf 23 [some (.ref x), l1, l2, l3] st σ = den mX3_secondsOf 24 [some (.ref x), l1, l2, l3] (.ref x :: st) σ) ∧
  (∀ (l0 l1 l2 l3 : Option Value) (q : Nat) (st : List Value) (σ : dS), den mX3_secondsOf 24 [l0, l1, l2, l3] (.ref q :: st) σ = (dget σ q 2 2).bind fun v => den mX3_secondsOf 27 [l0, l1, l2, l3] (v :: st) σ) ∧
  (∀ (l0 l1 l2 : Option Value) (x : Int32) (st : List Value) (σ : dS), den mX3_secondsOf 27 [l0, l1, l2, some (.int x)] st σ = den mX3_secondsOf 28 [l0, l1, l2, some (.int x)] (.int x :: st) σ) ∧
  (∀ (l0 l1 l2 l3 : Option Value) (q : Nat) (i : Int32) (st : List Value) (σ : dS), den mX3_secondsOf 28 [l0, l1, l2, l3] (.int i :: .ref q :: st) σ = if q ≤ dN then (dald σ q 0 i).bind (fun v => den mX3_secondsOf 29 [l0, l1, l2, l3] (.int v :: st) σ) else none) ∧
  (∀ (l0 l1 l2 l3 : Option Value) (st : List Value) (σ : dS), den mX3_secondsOf 29 [l0, l1, l2, l3] st σ = den mX3_secondsOf 33 [l0, l1, l2, l3] st σ) ∧
  (∀ (l0 l1 l2 l3 : Option Value) (st : List Value) (σ : dS), den mX3_secondsOf 32 [l0, l1, l2, l3] st σ = den mX3_secondsOf 33 [l0, l1, l2, l3] (.int (nI 0) :: st) σ) ∧
  (∀ (l0 l1 l2 l3 : Option Value) (x y : Int32) (st : List Value) (σ : dS), den mX3_secondsOf 33 [l0, l1, l2, l3] (.int y :: .int x :: st) σ = den mX3_secondsOf 34 [l0, l1, l2, l3] (.int (x + y) :: st) σ) ∧
  (∀ (l0 l2 l3 : Option Value) (x : Int32) (y : Int32) (st : List Value) (σ : dS), den mX3_secondsOf 34 [l0, some (.int y), l2, l3] (.int x :: st) σ = den mX3_secondsOf 35 [l0, some (.int y), some (.int x), l3] st σ) ∧
  (∀ (l0 l1 : Option Value) (x : Int32) (y : Int32) (st : List Value) (σ : dS), den mX3_secondsOf 35 [l0, l1, some (.int y), some (.int x)] st σ = den mX3_secondsOf 38 [l0, l1, some (.int y), some (.int (x + nI 1))] st σ) ∧
  (∀ (l0 l1 l2 l3 : Option Value) (st : List Value) (σ : dS), den mX3_secondsOf 38 [l0, l1, l2, l3] st σ = den mX3_secondsOf 4 [l0, l1, l2, l3] st σ) ∧
  (∀ (l0 l1 l3 : Option Value) (x : Int32) (st : List Value) (σ : dS), den mX3_secondsOf 41 [l0, l1, some (.int x), l3] st σ = den mX3_secondsOf 42 [l0, l1, some (.int x), l3] (.int x :: st) σ) ∧
  (∀ (l0 l1 l2 l3 : Option Value) (v : Int32) (σ : dS), den mX3_secondsOf 42 [l0, l1, l2, l3] [.int v] σ = some (some (.int v), σ)) :=
  ⟨fun l0 l1 l2 l3 st σ => dn_iconst eX3_secondsOf dX3_secondsOf_0 kc_iconst_0,
  fun l0 l2 l3 x y st σ => dn_istore_n eX3_secondsOf dX3_secondsOf_1 rfl,
  fun l0 l1 l2 l3 st σ => dn_iconst eX3_secondsOf dX3_secondsOf_2 kc_iconst_0,
  fun l0 l1 l3 x y st σ => dn_istore_n eX3_secondsOf dX3_secondsOf_3 rfl,
  fun l1 l2 l3 x st σ => dn_aload_n eX3_secondsOf dX3_secondsOf_5 rfl,
  fun l0 l1 l2 l3 q st σ => dn_getfield (f := (2, 7, 109)) eX3_secondsOf dX3_secondsOf_6 (by decide +kernel),
  fun l0 l1 l2 l3 x y st σ => dn_icmp_ge eX3_secondsOf dX3_secondsOf_9 (by decide),
  fun l0 l1 l3 x st σ => dn_iload_n eX3_secondsOf dX3_secondsOf_12 rfl,
  fun l1 l2 l3 x st σ => dn_aload_n eX3_secondsOf dX3_secondsOf_13 rfl,
  fun l0 l1 l2 l3 q st σ => dn_getfield (f := (2, 0, 84)) eX3_secondsOf dX3_secondsOf_14 (by decide +kernel),
  fun l0 l1 l2 x st σ => dn_iload_n eX3_secondsOf dX3_secondsOf_17 rfl,
  fun l0 l1 l2 l3 q i st σ => dn_iaload eX3_secondsOf dX3_secondsOf_18,
  fun l0 l2 l3 x st σ => dn_iload_n eX3_secondsOf dX3_secondsOf_19 rfl,
  fun l0 l1 l2 l3 x y st σ => dn_icmp_ne eX3_secondsOf dX3_secondsOf_20 (by decide),
  fun l1 l2 l3 x st σ => dn_aload_n eX3_secondsOf dX3_secondsOf_23 rfl,
  fun l0 l1 l2 l3 q st σ => dn_getfield (f := (2, 2, 93)) eX3_secondsOf dX3_secondsOf_24 (by decide +kernel),
  fun l0 l1 l2 x st σ => dn_iload_n eX3_secondsOf dX3_secondsOf_27 rfl,
  fun l0 l1 l2 l3 q i st σ => dn_iaload eX3_secondsOf dX3_secondsOf_28,
  fun l0 l1 l2 l3 st σ => dn_goto eX3_secondsOf dX3_secondsOf_29 (by decide),
  fun l0 l1 l2 l3 st σ => dn_iconst eX3_secondsOf dX3_secondsOf_32 kc_iconst_0,
  fun l0 l1 l2 l3 x y st σ => dn_iadd eX3_secondsOf dX3_secondsOf_33,
  fun l0 l2 l3 x y st σ => dn_istore_n eX3_secondsOf dX3_secondsOf_34 rfl,
  fun l0 l1 x y st σ => dn_iinc (v := nI 1) eX3_secondsOf dX3_secondsOf_35 rfl kc_iconst_1 rfl,
  fun l0 l1 l2 l3 st σ => dn_goto eX3_secondsOf dX3_secondsOf_38 (by decide),
  fun l0 l1 l3 x st σ => dn_iload_n eX3_secondsOf dX3_secondsOf_41 rfl,
  fun l0 l1 l2 l3 v σ => dn_ireturn eX3_secondsOf dX3_secondsOf_42 rfl⟩
theorem CX3_mostOfPart (a0 : Nat) (a1 : Int32) (a2 : Int32) (σ : dS) : dcall mX3_mostOfPart [.ref a0, .int a1, .int a2] σ = den mX3_mostOfPart 0 [some (.ref a0), some (.int a1), some (.int a2)] [] σ := dcall_den (by decide) rfl
theorem rX3_mostOfPart_55 (l0 l1 l2 : Option Value) (a0 : Int32) (q : Nat) (σ : dS) : den mX3_mostOfPart 55 [l0, l1, l2] [.int a0, .ref q] σ = if disO σ q 2 = true then ((dcall mX3_isCompute [.ref q, .int a0] σ).bind fun r => den mX3_mostOfPart 58 [l0, l1, l2] (r.1.toList ++ []) r.2) else none := by
  by_cases h : disO σ q 2 = true
  · rw [if_pos h]; exact dn_callV (e := (0, 32, 699)) (as := [.int a0]) (rest := []) eX3_mostOfPart dX3_mostOfPart_55 (by decide +kernel) rfl (by decide +kernel) rfl (dcat_le rfl) (dlen_le rfl) rfl h
  · rw [if_neg h]; exact den_noV (e := (0, 32, 699)) (as := [.int a0]) (rest := []) eX3_mostOfPart dX3_mostOfPart_55 (by decide +kernel) rfl rfl rfl h
set_option maxRecDepth 20000 in
theorem SX3_mostOfPart : (∀ (l0 l1 : Option Value) (x : Int32) (st : List Value) (σ : dS), den mX3_mostOfPart 0 [l0, l1, some (.int x)] st σ = den mX3_mostOfPart 1 [l0, l1, some (.int x)] (.int x :: st) σ) ∧
  (∀ (l0 l1 l2 : Option Value) (st : List Value) (σ : dS), den mX3_mostOfPart 1 [l0, l1, l2] st σ = den mX3_mostOfPart 2 [l0, l1, l2] (.int (nI 1) :: st) σ) ∧
  (∀ (l0 l1 l2 : Option Value) (x y : Int32) (st : List Value) (σ : dS), den mX3_mostOfPart 2 [l0, l1, l2] (.int y :: .int x :: st) σ = if x = y then den mX3_mostOfPart 5 [l0, l1, l2] st σ else den mX3_mostOfPart 8 [l0, l1, l2] st σ) ∧
  (∀ (l0 l1 l2 : Option Value) (st : List Value) (σ : dS), den mX3_mostOfPart 5 [l0, l1, l2] st σ = den mX3_mostOfPart 7 [l0, l1, l2] (.int (nI 7) :: st) σ) ∧
  (∀ (l0 l1 l2 : Option Value) (v : Int32) (σ : dS), den mX3_mostOfPart 7 [l0, l1, l2] [.int v] σ = some (some (.int v), σ)) ∧
  (∀ (l0 l1 : Option Value) (x : Int32) (st : List Value) (σ : dS), den mX3_mostOfPart 8 [l0, l1, some (.int x)] st σ = den mX3_mostOfPart 9 [l0, l1, some (.int x)] (.int x :: st) σ) ∧
  (∀ (l0 l1 l2 : Option Value) (st : List Value) (σ : dS), den mX3_mostOfPart 9 [l0, l1, l2] st σ = den mX3_mostOfPart 10 [l0, l1, l2] (.int (nI 2) :: st) σ) ∧
  (∀ (l0 l1 l2 : Option Value) (x y : Int32) (st : List Value) (σ : dS), den mX3_mostOfPart 10 [l0, l1, l2] (.int y :: .int x :: st) σ = if x = y then den mX3_mostOfPart 13 [l0, l1, l2] st σ else den mX3_mostOfPart 25 [l0, l1, l2] st σ) ∧
  (∀ (l1 l2 : Option Value) (x : Nat) (st : List Value) (σ : dS), den mX3_mostOfPart 13 [some (.ref x), l1, l2] st σ = den mX3_mostOfPart 14 [some (.ref x), l1, l2] (.ref x :: st) σ) ∧
  (∀ (l0 l1 l2 : Option Value) (q : Nat) (st : List Value) (σ : dS), den mX3_mostOfPart 14 [l0, l1, l2] (.ref q :: st) σ = (dget σ q 2 0).bind fun v => den mX3_mostOfPart 17 [l0, l1, l2] (v :: st) σ) ∧
  (∀ (l0 l2 : Option Value) (x : Int32) (st : List Value) (σ : dS), den mX3_mostOfPart 17 [l0, some (.int x), l2] st σ = den mX3_mostOfPart 18 [l0, some (.int x), l2] (.int x :: st) σ) ∧
  (∀ (l0 l1 l2 : Option Value) (q : Nat) (i : Int32) (st : List Value) (σ : dS), den mX3_mostOfPart 18 [l0, l1, l2] (.int i :: .ref q :: st) σ = if q ≤ dN then (dald σ q 0 i).bind (fun v => den mX3_mostOfPart 19 [l0, l1, l2] (.int v :: st) σ) else none) ∧
  (∀ (l0 l1 l2 : Option Value) (x : Int32) (st : List Value) (σ : dS), den mX3_mostOfPart 19 [l0, l1, l2] (.int x :: st) σ = if x = 0 then den mX3_mostOfPart 22 [l0, l1, l2] st σ else den mX3_mostOfPart 25 [l0, l1, l2] st σ) ∧
  (∀ (l0 l1 l2 : Option Value) (st : List Value) (σ : dS), den mX3_mostOfPart 22 [l0, l1, l2] st σ = den mX3_mostOfPart 24 [l0, l1, l2] (.int (nI 99) :: st) σ) ∧
  (∀ (l0 l1 l2 : Option Value) (v : Int32) (σ : dS), den mX3_mostOfPart 24 [l0, l1, l2] [.int v] σ = some (some (.int v), σ)) ∧
  (∀ (l0 l1 : Option Value) (x : Int32) (st : List Value) (σ : dS), den mX3_mostOfPart 25 [l0, l1, some (.int x)] st σ = den mX3_mostOfPart 26 [l0, l1, some (.int x)] (.int x :: st) σ) ∧
  (∀ (l0 l1 l2 : Option Value) (st : List Value) (σ : dS), den mX3_mostOfPart 26 [l0, l1, l2] st σ = den mX3_mostOfPart 27 [l0, l1, l2] (.int (nI 2) :: st) σ) ∧
  (∀ (l0 l1 l2 : Option Value) (x y : Int32) (st : List Value) (σ : dS), den mX3_mostOfPart 27 [l0, l1, l2] (.int y :: .int x :: st) σ = if x = y then den mX3_mostOfPart 30 [l0, l1, l2] st σ else den mX3_mostOfPart 43 [l0, l1, l2] st σ) ∧
  (∀ (l1 l2 : Option Value) (x : Nat) (st : List Value) (σ : dS), den mX3_mostOfPart 30 [some (.ref x), l1, l2] st σ = den mX3_mostOfPart 31 [some (.ref x), l1, l2] (.ref x :: st) σ) ∧
  (∀ (l0 l1 l2 : Option Value) (q : Nat) (st : List Value) (σ : dS), den mX3_mostOfPart 31 [l0, l1, l2] (.ref q :: st) σ = (dget σ q 2 0).bind fun v => den mX3_mostOfPart 34 [l0, l1, l2] (v :: st) σ) ∧
  (∀ (l0 l2 : Option Value) (x : Int32) (st : List Value) (σ : dS), den mX3_mostOfPart 34 [l0, some (.int x), l2] st σ = den mX3_mostOfPart 35 [l0, some (.int x), l2] (.int x :: st) σ) ∧
  (∀ (l0 l1 l2 : Option Value) (q : Nat) (i : Int32) (st : List Value) (σ : dS), den mX3_mostOfPart 35 [l0, l1, l2] (.int i :: .ref q :: st) σ = if q ≤ dN then (dald σ q 0 i).bind (fun v => den mX3_mostOfPart 36 [l0, l1, l2] (.int v :: st) σ) else none) ∧
  (∀ (l0 l1 l2 : Option Value) (st : List Value) (σ : dS), den mX3_mostOfPart 36 [l0, l1, l2] st σ = den mX3_mostOfPart 37 [l0, l1, l2] (.int (nI 5) :: st) σ) ∧
  (∀ (l0 l1 l2 : Option Value) (x y : Int32) (st : List Value) (σ : dS), den mX3_mostOfPart 37 [l0, l1, l2] (.int y :: .int x :: st) σ = if x = y then den mX3_mostOfPart 40 [l0, l1, l2] st σ else den mX3_mostOfPart 43 [l0, l1, l2] st σ) ∧
  (∀ (l0 l1 l2 : Option Value) (st : List Value) (σ : dS), den mX3_mostOfPart 40 [l0, l1, l2] st σ = den mX3_mostOfPart 42 [l0, l1, l2] (.int (nI 10) :: st) σ) ∧
  (∀ (l0 l1 l2 : Option Value) (v : Int32) (σ : dS), den mX3_mostOfPart 42 [l0, l1, l2] [.int v] σ = some (some (.int v), σ)) ∧
  (∀ (l0 l1 : Option Value) (x : Int32) (st : List Value) (σ : dS), den mX3_mostOfPart 43 [l0, l1, some (.int x)] st σ = den mX3_mostOfPart 44 [l0, l1, some (.int x)] (.int x :: st) σ) ∧
  (∀ (l0 l1 l2 : Option Value) (st : List Value) (σ : dS), den mX3_mostOfPart 44 [l0, l1, l2] st σ = den mX3_mostOfPart 45 [l0, l1, l2] (.int (nI 2) :: st) σ) ∧
  (∀ (l0 l1 l2 : Option Value) (x y : Int32) (st : List Value) (σ : dS), den mX3_mostOfPart 45 [l0, l1, l2] (.int y :: .int x :: st) σ = if x = y then den mX3_mostOfPart 53 [l0, l1, l2] st σ else den mX3_mostOfPart 48 [l0, l1, l2] st σ) ∧
  (∀ (l0 l1 : Option Value) (x : Int32) (st : List Value) (σ : dS), den mX3_mostOfPart 48 [l0, l1, some (.int x)] st σ = den mX3_mostOfPart 49 [l0, l1, some (.int x)] (.int x :: st) σ) ∧
  (∀ (l0 l1 l2 : Option Value) (st : List Value) (σ : dS), den mX3_mostOfPart 49 [l0, l1, l2] st σ = den mX3_mostOfPart 50 [l0, l1, l2] (.int (nI 3) :: st) σ) ∧
  (∀ (l0 l1 l2 : Option Value) (x y : Int32) (st : List Value) (σ : dS), den mX3_mostOfPart 50 [l0, l1, l2] (.int y :: .int x :: st) σ = if x = y then den mX3_mostOfPart 53 [l0, l1, l2] st σ else den mX3_mostOfPart 66 [l0, l1, l2] st σ) ∧
  (∀ (l1 l2 : Option Value) (x : Nat) (st : List Value) (σ : dS), den mX3_mostOfPart 53 [some (.ref x), l1, l2] st σ = den mX3_mostOfPart 54 [some (.ref x), l1, l2] (.ref x :: st) σ) ∧
  (∀ (l0 l2 : Option Value) (x : Int32) (st : List Value) (σ : dS), den mX3_mostOfPart 54 [l0, some (.int x), l2] st σ = den mX3_mostOfPart 55 [l0, some (.int x), l2] (.int x :: st) σ) ∧
  (∀ (l0 l1 l2 : Option Value) (a0 : Int32) (q : Nat) (σ : dS), den mX3_mostOfPart 55 [l0, l1, l2] [.int a0, .ref q] σ = if disO σ q 2 = true then ((dcall mX3_isCompute [.ref q, .int a0] σ).bind fun r => den mX3_mostOfPart 58 [l0, l1, l2] (r.1.toList ++ []) r.2) else none) ∧
  (∀ (l0 l1 l2 : Option Value) (x : Int32) (st : List Value) (σ : dS), den mX3_mostOfPart 58 [l0, l1, l2] (.int x :: st) σ = if x = 0 then den mX3_mostOfPart 66 [l0, l1, l2] st σ else den mX3_mostOfPart 61 [l0, l1, l2] st σ) ∧
  (∀ (l0 l1 l2 : Option Value) (st : List Value) (σ : dS), den mX3_mostOfPart 61 [l0, l1, l2] st σ = den mX3_mostOfPart 63 [l0, l1, l2] (.int (nI 7) :: st) σ) ∧
  (∀ (l0 l1 l2 : Option Value) (st : List Value) (σ : dS), den mX3_mostOfPart 63 [l0, l1, l2] st σ = den mX3_mostOfPart 68 [l0, l1, l2] st σ) ∧
  (∀ (l0 l1 l2 : Option Value) (st : List Value) (σ : dS), den mX3_mostOfPart 66 [l0, l1, l2] st σ = den mX3_mostOfPart 68 [l0, l1, l2] (.int ((-4)) :: st) σ) ∧
  (∀ (l0 l1 l2 : Option Value) (v : Int32) (σ : dS), den mX3_mostOfPart 68 [l0, l1, l2] [.int v] σ = some (some (.int v), σ)) :=
  ⟨fun l0 l1 x st σ => dn_iload_n eX3_mostOfPart dX3_mostOfPart_0 rfl,
  fun l0 l1 l2 st σ => dn_iconst eX3_mostOfPart dX3_mostOfPart_1 kc_iconst_1,
  fun l0 l1 l2 x y st σ => dn_icmp_ne eX3_mostOfPart dX3_mostOfPart_2 (by decide),
  fun l0 l1 l2 st σ => dn_bipush eX3_mostOfPart dX3_mostOfPart_5 kc_bipush_7,
  fun l0 l1 l2 v σ => dn_ireturn eX3_mostOfPart dX3_mostOfPart_7 rfl,
  fun l0 l1 x st σ => dn_iload_n eX3_mostOfPart dX3_mostOfPart_8 rfl,
  fun l0 l1 l2 st σ => dn_iconst eX3_mostOfPart dX3_mostOfPart_9 kc_iconst_2,
  fun l0 l1 l2 x y st σ => dn_icmp_ne eX3_mostOfPart dX3_mostOfPart_10 (by decide),
  fun l1 l2 x st σ => dn_aload_n eX3_mostOfPart dX3_mostOfPart_13 rfl,
  fun l0 l1 l2 q st σ => dn_getfield (f := (2, 0, 84)) eX3_mostOfPart dX3_mostOfPart_14 (by decide +kernel),
  fun l0 l2 x st σ => dn_iload_n eX3_mostOfPart dX3_mostOfPart_17 rfl,
  fun l0 l1 l2 q i st σ => dn_iaload eX3_mostOfPart dX3_mostOfPart_18,
  fun l0 l1 l2 x st σ => dn_if_ne eX3_mostOfPart dX3_mostOfPart_19 (by decide),
  fun l0 l1 l2 st σ => dn_bipush eX3_mostOfPart dX3_mostOfPart_22 kc_bipush_99,
  fun l0 l1 l2 v σ => dn_ireturn eX3_mostOfPart dX3_mostOfPart_24 rfl,
  fun l0 l1 x st σ => dn_iload_n eX3_mostOfPart dX3_mostOfPart_25 rfl,
  fun l0 l1 l2 st σ => dn_iconst eX3_mostOfPart dX3_mostOfPart_26 kc_iconst_2,
  fun l0 l1 l2 x y st σ => dn_icmp_ne eX3_mostOfPart dX3_mostOfPart_27 (by decide),
  fun l1 l2 x st σ => dn_aload_n eX3_mostOfPart dX3_mostOfPart_30 rfl,
  fun l0 l1 l2 q st σ => dn_getfield (f := (2, 0, 84)) eX3_mostOfPart dX3_mostOfPart_31 (by decide +kernel),
  fun l0 l2 x st σ => dn_iload_n eX3_mostOfPart dX3_mostOfPart_34 rfl,
  fun l0 l1 l2 q i st σ => dn_iaload eX3_mostOfPart dX3_mostOfPart_35,
  fun l0 l1 l2 st σ => dn_iconst eX3_mostOfPart dX3_mostOfPart_36 kc_iconst_5,
  fun l0 l1 l2 x y st σ => dn_icmp_ne eX3_mostOfPart dX3_mostOfPart_37 (by decide),
  fun l0 l1 l2 st σ => dn_bipush eX3_mostOfPart dX3_mostOfPart_40 kc_bipush_10,
  fun l0 l1 l2 v σ => dn_ireturn eX3_mostOfPart dX3_mostOfPart_42 rfl,
  fun l0 l1 x st σ => dn_iload_n eX3_mostOfPart dX3_mostOfPart_43 rfl,
  fun l0 l1 l2 st σ => dn_iconst eX3_mostOfPart dX3_mostOfPart_44 kc_iconst_2,
  fun l0 l1 l2 x y st σ => dn_icmp_eq eX3_mostOfPart dX3_mostOfPart_45 (by decide),
  fun l0 l1 x st σ => dn_iload_n eX3_mostOfPart dX3_mostOfPart_48 rfl,
  fun l0 l1 l2 st σ => dn_iconst eX3_mostOfPart dX3_mostOfPart_49 kc_iconst_3,
  fun l0 l1 l2 x y st σ => dn_icmp_ne eX3_mostOfPart dX3_mostOfPart_50 (by decide),
  fun l1 l2 x st σ => dn_aload_n eX3_mostOfPart dX3_mostOfPart_53 rfl,
  fun l0 l2 x st σ => dn_iload_n eX3_mostOfPart dX3_mostOfPart_54 rfl,
  fun l0 l1 l2 a0 q σ => rX3_mostOfPart_55 l0 l1 l2 a0 q σ,
  fun l0 l1 l2 x st σ => dn_if_eq eX3_mostOfPart dX3_mostOfPart_58 (by decide),
  fun l0 l1 l2 st σ => dn_bipush eX3_mostOfPart dX3_mostOfPart_61 kc_bipush_7,
  fun l0 l1 l2 st σ => dn_goto eX3_mostOfPart dX3_mostOfPart_63 (by decide),
  fun l0 l1 l2 st σ => dn_bipush eX3_mostOfPart dX3_mostOfPart_66 kc_bipush_m4,
  fun l0 l1 l2 v σ => dn_ireturn eX3_mostOfPart dX3_mostOfPart_68 rfl⟩
theorem CX3_mayChange (a0 : Nat) (a1 : Int32) (a2 : Int32) (a3 : Int32) (σ : dS) : dcall mX3_mayChange [.ref a0, .int a1, .int a2, .int a3] σ = den mX3_mayChange 0 [some (.ref a0), some (.int a1), some (.int a2), some (.int a3)] [] σ := dcall_den (by decide) rfl
theorem rX3_mayChange_2 (l0 l1 l2 l3 : Option Value) (a0 : Int32) (q : Nat) (σ : dS) : den mX3_mayChange 2 [l0, l1, l2, l3] [.int a0, .ref q] σ = if disO σ q 2 = true then ((dcall mX3_hasInstruction [.ref q, .int a0] σ).bind fun r => den mX3_mayChange 5 [l0, l1, l2, l3] (r.1.toList ++ []) r.2) else none := by
  by_cases h : disO σ q 2 = true
  · rw [if_pos h]; exact dn_callV (e := (0, 28, 694)) (as := [.int a0]) (rest := []) eX3_mayChange dX3_mayChange_2 (by decide +kernel) rfl (by decide +kernel) rfl (dcat_le rfl) (dlen_le rfl) rfl h
  · rw [if_neg h]; exact den_noV (e := (0, 28, 694)) (as := [.int a0]) (rest := []) eX3_mayChange dX3_mayChange_2 (by decide +kernel) rfl rfl rfl h
theorem rX3_mayChange_16 (l0 l1 l2 l3 : Option Value) (a0 : Int32) (a1 : Int32) (b0 : Int32) (q : Nat) (σ : dS) : den mX3_mayChange 16 [l0, l1, l2, l3] [.int a1, .int a0, .ref q, .int b0] σ = if disO σ q 2 = true then ((dcall mX3_mostOfPart [.ref q, .int a0, .int a1] σ).bind fun r => den mX3_mayChange 19 [l0, l1, l2, l3] (r.1.toList ++ [.int b0]) r.2) else none := by
  by_cases h : disO σ q 2 = true
  · rw [if_pos h]; exact dn_callV (e := (0, 42, 695)) (as := [.int a0, .int a1]) (rest := [.int b0]) eX3_mayChange dX3_mayChange_16 (by decide +kernel) rfl (by decide +kernel) rfl (dcat_le rfl) (dlen_le rfl) rfl h
  · rw [if_neg h]; exact den_noV (e := (0, 42, 695)) (as := [.int a0, .int a1]) (rest := [.int b0]) eX3_mayChange dX3_mayChange_16 (by decide +kernel) rfl rfl rfl h
set_option maxRecDepth 20000 in
theorem SX3_mayChange : (∀ (l1 l2 l3 : Option Value) (x : Nat) (st : List Value) (σ : dS), den mX3_mayChange 0 [some (.ref x), l1, l2, l3] st σ = den mX3_mayChange 1 [some (.ref x), l1, l2, l3] (.ref x :: st) σ) ∧
  (∀ (l0 l2 l3 : Option Value) (x : Int32) (st : List Value) (σ : dS), den mX3_mayChange 1 [l0, some (.int x), l2, l3] st σ = den mX3_mayChange 2 [l0, some (.int x), l2, l3] (.int x :: st) σ) ∧
  (∀ (l0 l1 l2 l3 : Option Value) (a0 : Int32) (q : Nat) (σ : dS), den mX3_mayChange 2 [l0, l1, l2, l3] [.int a0, .ref q] σ = if disO σ q 2 = true then ((dcall mX3_hasInstruction [.ref q, .int a0] σ).bind fun r => den mX3_mayChange 5 [l0, l1, l2, l3] (r.1.toList ++ []) r.2) else none) ∧
  (∀ (l0 l1 l2 l3 : Option Value) (x : Int32) (st : List Value) (σ : dS), den mX3_mayChange 5 [l0, l1, l2, l3] (.int x :: st) σ = if x = 0 then den mX3_mayChange 26 [l0, l1, l2, l3] st σ else den mX3_mayChange 8 [l0, l1, l2, l3] st σ) ∧
  (∀ (l0 l1 l2 : Option Value) (x : Int32) (st : List Value) (σ : dS), den mX3_mayChange 8 [l0, l1, l2, some (.int x)] st σ = den mX3_mayChange 9 [l0, l1, l2, some (.int x)] (.int x :: st) σ) ∧
  (∀ (l0 l1 l2 l3 : Option Value) (x : Int32) (st : List Value) (σ : dS), den mX3_mayChange 9 [l0, l1, l2, l3] (.int x :: st) σ = if x < 0 then den mX3_mayChange 26 [l0, l1, l2, l3] st σ else den mX3_mayChange 12 [l0, l1, l2, l3] st σ) ∧
  (∀ (l0 l1 l2 : Option Value) (x : Int32) (st : List Value) (σ : dS), den mX3_mayChange 12 [l0, l1, l2, some (.int x)] st σ = den mX3_mayChange 13 [l0, l1, l2, some (.int x)] (.int x :: st) σ) ∧
  (∀ (l1 l2 l3 : Option Value) (x : Nat) (st : List Value) (σ : dS), den mX3_mayChange 13 [some (.ref x), l1, l2, l3] st σ = den mX3_mayChange 14 [some (.ref x), l1, l2, l3] (.ref x :: st) σ) ∧
  (∀ (l0 l2 l3 : Option Value) (x : Int32) (st : List Value) (σ : dS), den mX3_mayChange 14 [l0, some (.int x), l2, l3] st σ = den mX3_mayChange 15 [l0, some (.int x), l2, l3] (.int x :: st) σ) ∧
  (∀ (l0 l1 l3 : Option Value) (x : Int32) (st : List Value) (σ : dS), den mX3_mayChange 15 [l0, l1, some (.int x), l3] st σ = den mX3_mayChange 16 [l0, l1, some (.int x), l3] (.int x :: st) σ) ∧
  (∀ (l0 l1 l2 l3 : Option Value) (a0 : Int32) (a1 : Int32) (b0 : Int32) (q : Nat) (σ : dS), den mX3_mayChange 16 [l0, l1, l2, l3] [.int a1, .int a0, .ref q, .int b0] σ = if disO σ q 2 = true then ((dcall mX3_mostOfPart [.ref q, .int a0, .int a1] σ).bind fun r => den mX3_mayChange 19 [l0, l1, l2, l3] (r.1.toList ++ [.int b0]) r.2) else none) ∧
  (∀ (l0 l1 l2 l3 : Option Value) (x y : Int32) (st : List Value) (σ : dS), den mX3_mayChange 19 [l0, l1, l2, l3] (.int y :: .int x :: st) σ = if y < x then den mX3_mayChange 26 [l0, l1, l2, l3] st σ else den mX3_mayChange 22 [l0, l1, l2, l3] st σ) ∧
  (∀ (l0 l1 l2 l3 : Option Value) (st : List Value) (σ : dS), den mX3_mayChange 22 [l0, l1, l2, l3] st σ = den mX3_mayChange 23 [l0, l1, l2, l3] (.int (nI 1) :: st) σ) ∧
  (∀ (l0 l1 l2 l3 : Option Value) (st : List Value) (σ : dS), den mX3_mayChange 23 [l0, l1, l2, l3] st σ = den mX3_mayChange 27 [l0, l1, l2, l3] st σ) ∧
  (∀ (l0 l1 l2 l3 : Option Value) (st : List Value) (σ : dS), den mX3_mayChange 26 [l0, l1, l2, l3] st σ = den mX3_mayChange 27 [l0, l1, l2, l3] (.int (nI 0) :: st) σ) ∧
  (∀ (l0 l1 l2 l3 : Option Value) (v : Int32) (σ : dS), den mX3_mayChange 27 [l0, l1, l2, l3] [.int v] σ = if v = 0 ∨ v = 1 then some (some (.int v), σ) else none) :=
  ⟨fun l1 l2 l3 x st σ => dn_aload_n eX3_mayChange dX3_mayChange_0 rfl,
  fun l0 l2 l3 x st σ => dn_iload_n eX3_mayChange dX3_mayChange_1 rfl,
  fun l0 l1 l2 l3 a0 q σ => rX3_mayChange_2 l0 l1 l2 l3 a0 q σ,
  fun l0 l1 l2 l3 x st σ => dn_if_eq eX3_mayChange dX3_mayChange_5 (by decide),
  fun l0 l1 l2 x st σ => dn_iload_n eX3_mayChange dX3_mayChange_8 rfl,
  fun l0 l1 l2 l3 x st σ => dn_if_lt eX3_mayChange dX3_mayChange_9 (by decide),
  fun l0 l1 l2 x st σ => dn_iload_n eX3_mayChange dX3_mayChange_12 rfl,
  fun l1 l2 l3 x st σ => dn_aload_n eX3_mayChange dX3_mayChange_13 rfl,
  fun l0 l2 l3 x st σ => dn_iload_n eX3_mayChange dX3_mayChange_14 rfl,
  fun l0 l1 l3 x st σ => dn_iload_n eX3_mayChange dX3_mayChange_15 rfl,
  fun l0 l1 l2 l3 a0 a1 b0 q σ => rX3_mayChange_16 l0 l1 l2 l3 a0 a1 b0 q σ,
  fun l0 l1 l2 l3 x y st σ => dn_icmp_gt eX3_mayChange dX3_mayChange_19 (by decide),
  fun l0 l1 l2 l3 st σ => dn_iconst eX3_mayChange dX3_mayChange_22 kc_iconst_1,
  fun l0 l1 l2 l3 st σ => dn_goto eX3_mayChange dX3_mayChange_23 (by decide),
  fun l0 l1 l2 l3 st σ => dn_iconst eX3_mayChange dX3_mayChange_26 kc_iconst_0,
  fun l0 l1 l2 l3 v σ => dn_zreturn eX3_mayChange dX3_mayChange_27 rfl⟩
theorem CX3_change (a0 : Nat) (a1 : Int32) (a2 : Int32) (a3 : Int32) (σ : dS) : dcall mX3_change [.ref a0, .int a1, .int a2, .int a3] σ = den mX3_change 0 [some (.ref a0), some (.int a1), some (.int a2), some (.int a3), none, none] [] σ := dcall_den (by decide) rfl
set_option maxRecDepth 20000 in
theorem SX3_change : (∀ (l0 l1 l3 l4 l5 : Option Value) (x : Int32) (st : List Value) (σ : dS), den mX3_change 0 [l0, l1, some (.int x), l3, l4, l5] st σ = den mX3_change 1 [l0, l1, some (.int x), l3, l4, l5] (.int x :: st) σ) ∧
  (∀ (l0 l1 l2 l3 l4 l5 : Option Value) (st : List Value) (σ : dS), den mX3_change 1 [l0, l1, l2, l3, l4, l5] st σ = den mX3_change 2 [l0, l1, l2, l3, l4, l5] (.int (nI 1) :: st) σ) ∧
  (∀ (l0 l1 l2 l3 l4 l5 : Option Value) (x y : Int32) (st : List Value) (σ : dS), den mX3_change 2 [l0, l1, l2, l3, l4, l5] (.int y :: .int x :: st) σ = if x = y then den mX3_change 5 [l0, l1, l2, l3, l4, l5] st σ else den mX3_change 12 [l0, l1, l2, l3, l4, l5] st σ) ∧
  (∀ (l1 l2 l3 l4 l5 : Option Value) (x : Nat) (st : List Value) (σ : dS), den mX3_change 5 [some (.ref x), l1, l2, l3, l4, l5] st σ = den mX3_change 6 [some (.ref x), l1, l2, l3, l4, l5] (.ref x :: st) σ) ∧
  (∀ (l0 l1 l2 l3 l4 l5 : Option Value) (q : Nat) (st : List Value) (σ : dS), den mX3_change 6 [l0, l1, l2, l3, l4, l5] (.ref q :: st) σ = (dget σ q 2 1).bind fun v => den mX3_change 9 [l0, l1, l2, l3, l4, l5] (v :: st) σ) ∧
  (∀ (l0 l1 l2 l3 l4 l5 : Option Value) (st : List Value) (σ : dS), den mX3_change 9 [l0, l1, l2, l3, l4, l5] st σ = den mX3_change 28 [l0, l1, l2, l3, l4, l5] st σ) ∧
  (∀ (l0 l1 l3 l4 l5 : Option Value) (x : Int32) (st : List Value) (σ : dS), den mX3_change 12 [l0, l1, some (.int x), l3, l4, l5] st σ = den mX3_change 13 [l0, l1, some (.int x), l3, l4, l5] (.int x :: st) σ) ∧
  (∀ (l0 l1 l2 l3 l4 l5 : Option Value) (st : List Value) (σ : dS), den mX3_change 13 [l0, l1, l2, l3, l4, l5] st σ = den mX3_change 14 [l0, l1, l2, l3, l4, l5] (.int (nI 2) :: st) σ) ∧
  (∀ (l0 l1 l2 l3 l4 l5 : Option Value) (x y : Int32) (st : List Value) (σ : dS), den mX3_change 14 [l0, l1, l2, l3, l4, l5] (.int y :: .int x :: st) σ = if x = y then den mX3_change 17 [l0, l1, l2, l3, l4, l5] st σ else den mX3_change 24 [l0, l1, l2, l3, l4, l5] st σ) ∧
  (∀ (l1 l2 l3 l4 l5 : Option Value) (x : Nat) (st : List Value) (σ : dS), den mX3_change 17 [some (.ref x), l1, l2, l3, l4, l5] st σ = den mX3_change 18 [some (.ref x), l1, l2, l3, l4, l5] (.ref x :: st) σ) ∧
  (∀ (l0 l1 l2 l3 l4 l5 : Option Value) (q : Nat) (st : List Value) (σ : dS), den mX3_change 18 [l0, l1, l2, l3, l4, l5] (.ref q :: st) σ = (dget σ q 2 2).bind fun v => den mX3_change 21 [l0, l1, l2, l3, l4, l5] (v :: st) σ) ∧
  (∀ (l0 l1 l2 l3 l4 l5 : Option Value) (st : List Value) (σ : dS), den mX3_change 21 [l0, l1, l2, l3, l4, l5] st σ = den mX3_change 28 [l0, l1, l2, l3, l4, l5] st σ) ∧
  (∀ (l1 l2 l3 l4 l5 : Option Value) (x : Nat) (st : List Value) (σ : dS), den mX3_change 24 [some (.ref x), l1, l2, l3, l4, l5] st σ = den mX3_change 25 [some (.ref x), l1, l2, l3, l4, l5] (.ref x :: st) σ) ∧
  (∀ (l0 l1 l2 l3 l4 l5 : Option Value) (q : Nat) (st : List Value) (σ : dS), den mX3_change 25 [l0, l1, l2, l3, l4, l5] (.ref q :: st) σ = (dget σ q 2 3).bind fun v => den mX3_change 28 [l0, l1, l2, l3, l4, l5] (v :: st) σ) ∧
  (∀ (l0 l1 l2 l4 l5 : Option Value) (x : Nat) (y : Int32) (st : List Value) (σ : dS), den mX3_change 28 [l0, l1, l2, some (.int y), l4, l5] (.ref x :: st) σ = den mX3_change 30 [l0, l1, l2, some (.int y), some (.ref x), l5] st σ) ∧
  (∀ (l0 l1 l2 l3 l5 : Option Value) (x : Nat) (st : List Value) (σ : dS), den mX3_change 30 [l0, l1, l2, l3, some (.ref x), l5] st σ = den mX3_change 32 [l0, l1, l2, l3, some (.ref x), l5] (.ref x :: st) σ) ∧
  (∀ (l0 l2 l3 l4 l5 : Option Value) (x : Int32) (st : List Value) (σ : dS), den mX3_change 32 [l0, some (.int x), l2, l3, l4, l5] st σ = den mX3_change 33 [l0, some (.int x), l2, l3, l4, l5] (.int x :: st) σ) ∧
  (∀ (l0 l1 l2 l3 l4 l5 : Option Value) (q : Nat) (i : Int32) (st : List Value) (σ : dS), den mX3_change 33 [l0, l1, l2, l3, l4, l5] (.int i :: .ref q :: st) σ = if q ≤ dN then (dald σ q 0 i).bind (fun v => den mX3_change 34 [l0, l1, l2, l3, l4, l5] (.int v :: st) σ) else none) ∧
  (∀ (l0 l1 l2 l3 l5 : Option Value) (x : Int32) (y : Nat) (st : List Value) (σ : dS), den mX3_change 34 [l0, l1, l2, l3, some (.ref y), l5] (.int x :: st) σ = den mX3_change 36 [l0, l1, l2, l3, some (.ref y), some (.int x)] st σ) ∧
  (∀ (l0 l1 l2 l3 l5 : Option Value) (x : Nat) (st : List Value) (σ : dS), den mX3_change 36 [l0, l1, l2, l3, some (.ref x), l5] st σ = den mX3_change 38 [l0, l1, l2, l3, some (.ref x), l5] (.ref x :: st) σ) ∧
  (∀ (l0 l2 l3 l4 l5 : Option Value) (x : Int32) (st : List Value) (σ : dS), den mX3_change 38 [l0, some (.int x), l2, l3, l4, l5] st σ = den mX3_change 39 [l0, some (.int x), l2, l3, l4, l5] (.int x :: st) σ) ∧
  (∀ (l0 l1 l2 l4 l5 : Option Value) (x : Int32) (st : List Value) (σ : dS), den mX3_change 39 [l0, l1, l2, some (.int x), l4, l5] st σ = den mX3_change 40 [l0, l1, l2, some (.int x), l4, l5] (.int x :: st) σ) ∧
  (∀ (l0 l1 l2 l3 l4 l5 : Option Value) (q : Nat) (i x : Int32) (st : List Value) (σ : dS), den mX3_change 40 [l0, l1, l2, l3, l4, l5] (.int x :: .int i :: .ref q :: st) σ = (dast σ q 0 i x).bind fun τ => den mX3_change 41 [l0, l1, l2, l3, l4, l5] st τ) ∧
  (∀ (l0 l1 l2 l3 l4 : Option Value) (x : Int32) (st : List Value) (σ : dS), den mX3_change 41 [l0, l1, l2, l3, l4, some (.int x)] st σ = den mX3_change 43 [l0, l1, l2, l3, l4, some (.int x)] (.int x :: st) σ) ∧
  (∀ (l0 l1 l2 l3 l4 l5 : Option Value) (v : Int32) (σ : dS), den mX3_change 43 [l0, l1, l2, l3, l4, l5] [.int v] σ = some (some (.int v), σ)) :=
  ⟨fun l0 l1 l3 l4 l5 x st σ => dn_iload_n eX3_change dX3_change_0 rfl,
  fun l0 l1 l2 l3 l4 l5 st σ => dn_iconst eX3_change dX3_change_1 kc_iconst_1,
  fun l0 l1 l2 l3 l4 l5 x y st σ => dn_icmp_ne eX3_change dX3_change_2 (by decide),
  fun l1 l2 l3 l4 l5 x st σ => dn_aload_n eX3_change dX3_change_5 rfl,
  fun l0 l1 l2 l3 l4 l5 q st σ => dn_getfield (f := (2, 1, 89)) eX3_change dX3_change_6 (by decide +kernel),
  fun l0 l1 l2 l3 l4 l5 st σ => dn_goto eX3_change dX3_change_9 (by decide),
  fun l0 l1 l3 l4 l5 x st σ => dn_iload_n eX3_change dX3_change_12 rfl,
  fun l0 l1 l2 l3 l4 l5 st σ => dn_iconst eX3_change dX3_change_13 kc_iconst_2,
  fun l0 l1 l2 l3 l4 l5 x y st σ => dn_icmp_ne eX3_change dX3_change_14 (by decide),
  fun l1 l2 l3 l4 l5 x st σ => dn_aload_n eX3_change dX3_change_17 rfl,
  fun l0 l1 l2 l3 l4 l5 q st σ => dn_getfield (f := (2, 2, 93)) eX3_change dX3_change_18 (by decide +kernel),
  fun l0 l1 l2 l3 l4 l5 st σ => dn_goto eX3_change dX3_change_21 (by decide),
  fun l1 l2 l3 l4 l5 x st σ => dn_aload_n eX3_change dX3_change_24 rfl,
  fun l0 l1 l2 l3 l4 l5 q st σ => dn_getfield (f := (2, 3, 97)) eX3_change dX3_change_25 (by decide +kernel),
  fun l0 l1 l2 l4 l5 x y st σ => dn_astore eX3_change dX3_change_28 rfl,
  fun l0 l1 l2 l3 l5 x st σ => dn_aload eX3_change dX3_change_30 rfl,
  fun l0 l2 l3 l4 l5 x st σ => dn_iload_n eX3_change dX3_change_32 rfl,
  fun l0 l1 l2 l3 l4 l5 q i st σ => dn_iaload eX3_change dX3_change_33,
  fun l0 l1 l2 l3 l5 x y st σ => dn_istore eX3_change dX3_change_34 rfl,
  fun l0 l1 l2 l3 l5 x st σ => dn_aload eX3_change dX3_change_36 rfl,
  fun l0 l2 l3 l4 l5 x st σ => dn_iload_n eX3_change dX3_change_38 rfl,
  fun l0 l1 l2 l4 l5 x st σ => dn_iload_n eX3_change dX3_change_39 rfl,
  fun l0 l1 l2 l3 l4 l5 q i x st σ => dn_iastore eX3_change dX3_change_40,
  fun l0 l1 l2 l3 l4 x st σ => dn_iload eX3_change dX3_change_41 rfl,
  fun l0 l1 l2 l3 l4 l5 v σ => dn_ireturn eX3_change dX3_change_43 rfl⟩
theorem CX3_findIfs (a0 : Nat) (σ : dS) : dcall mX3_findIfs [.ref a0] σ = den mX3_findIfs 0 [some (.ref a0), none, none] [] σ := dcall_den (by decide) rfl
theorem hX3_findIfs_4 (l0 l1 : Option Value) (x : Int32) (st : List Value) (σ : dS) : den mX3_findIfs 4 [l0, l1, some (.int x)] st σ = den mX3_findIfs 5 [l0, l1, some (.int x)] (.int x :: st) σ := dn_iload_n eX3_findIfs dX3_findIfs_4 rfl
set_option maxRecDepth 20000 in
theorem SX3_findIfs : (∀ (l0 l1 l2 : Option Value) (st : List Value) (σ : dS), den mX3_findIfs 0 [l0, l1, l2] st σ = den mX3_findIfs 1 [l0, l1, l2] (.int (nI 0) :: st) σ) ∧
  (∀ (l1 l2 : Option Value) (x : Int32) (y : Nat) (st : List Value) (σ : dS), den mX3_findIfs 1 [some (.ref y), l1, l2] (.int x :: st) σ = den mX3_findIfs 2 [some (.ref y), some (.int x), l2] st σ) ∧
  (∀ (l0 l1 l2 : Option Value) (st : List Value) (σ : dS), den mX3_findIfs 2 [l0, l1, l2] st σ = den mX3_findIfs 3 [l0, l1, l2] (.int (nI 0) :: st) σ) ∧
  (∀ (l0 l2 : Option Value) (x : Int32) (y : Int32) (st : List Value) (σ : dS), den mX3_findIfs 3 [l0, some (.int y), l2] (.int x :: st) σ = den mX3_findIfs 4 [l0, some (.int y), some (.int x)] st σ) ∧
  (∀ (l1 l2 : Option Value) (x : Nat) (st : List Value) (σ : dS), den mX3_findIfs 5 [some (.ref x), l1, l2] st σ = den mX3_findIfs 6 [some (.ref x), l1, l2] (.ref x :: st) σ) ∧
  (∀ (l0 l1 l2 : Option Value) (q : Nat) (st : List Value) (σ : dS), den mX3_findIfs 6 [l0, l1, l2] (.ref q :: st) σ = (dget σ q 2 7).bind fun v => den mX3_findIfs 9 [l0, l1, l2] (v :: st) σ) ∧
  (∀ (l0 l1 l2 : Option Value) (x y : Int32) (st : List Value) (σ : dS), den mX3_findIfs 9 [l0, l1, l2] (.int y :: .int x :: st) σ = if x < y then den mX3_findIfs 12 [l0, l1, l2] st σ else den mX3_findIfs 46 [l0, l1, l2] st σ) ∧
  (∀ (l0 l2 : Option Value) (x : Int32) (st : List Value) (σ : dS), den mX3_findIfs 12 [l0, some (.int x), l2] st σ = den mX3_findIfs 13 [l0, some (.int x), l2] (.int x :: st) σ) ∧
  (∀ (l1 l2 : Option Value) (x : Nat) (st : List Value) (σ : dS), den mX3_findIfs 13 [some (.ref x), l1, l2] st σ = den mX3_findIfs 14 [some (.ref x), l1, l2] (.ref x :: st) σ) ∧
  (∀ (l0 l1 l2 : Option Value) (q : Nat) (st : List Value) (σ : dS), den mX3_findIfs 14 [l0, l1, l2] (.ref q :: st) σ = (dget σ q 2 8).bind fun v => den mX3_findIfs 17 [l0, l1, l2] (v :: st) σ) ∧
  (∀ (l0 l1 l2 : Option Value) (x y : Int32) (st : List Value) (σ : dS), den mX3_findIfs 17 [l0, l1, l2] (.int y :: .int x :: st) σ = if x < y then den mX3_findIfs 20 [l0, l1, l2] st σ else den mX3_findIfs 46 [l0, l1, l2] st σ) ∧
  (∀ (l1 l2 : Option Value) (x : Nat) (st : List Value) (σ : dS), den mX3_findIfs 20 [some (.ref x), l1, l2] st σ = den mX3_findIfs 21 [some (.ref x), l1, l2] (.ref x :: st) σ) ∧
  (∀ (l0 l1 l2 : Option Value) (q : Nat) (st : List Value) (σ : dS), den mX3_findIfs 21 [l0, l1, l2] (.ref q :: st) σ = (dget σ q 2 0).bind fun v => den mX3_findIfs 24 [l0, l1, l2] (v :: st) σ) ∧
  (∀ (l0 l1 : Option Value) (x : Int32) (st : List Value) (σ : dS), den mX3_findIfs 24 [l0, l1, some (.int x)] st σ = den mX3_findIfs 25 [l0, l1, some (.int x)] (.int x :: st) σ) ∧
  (∀ (l0 l1 l2 : Option Value) (q : Nat) (i : Int32) (st : List Value) (σ : dS), den mX3_findIfs 25 [l0, l1, l2] (.int i :: .ref q :: st) σ = if q ≤ dN then (dald σ q 0 i).bind (fun v => den mX3_findIfs 26 [l0, l1, l2] (.int v :: st) σ) else none) ∧
  (∀ (l0 l1 l2 : Option Value) (st : List Value) (σ : dS), den mX3_findIfs 26 [l0, l1, l2] st σ = den mX3_findIfs 27 [l0, l1, l2] (.int (nI 5) :: st) σ) ∧
  (∀ (l0 l1 l2 : Option Value) (x y : Int32) (st : List Value) (σ : dS), den mX3_findIfs 27 [l0, l1, l2] (.int y :: .int x :: st) σ = if x = y then den mX3_findIfs 30 [l0, l1, l2] st σ else den mX3_findIfs 40 [l0, l1, l2] st σ) ∧
  (∀ (l1 l2 : Option Value) (x : Nat) (st : List Value) (σ : dS), den mX3_findIfs 30 [some (.ref x), l1, l2] st σ = den mX3_findIfs 31 [some (.ref x), l1, l2] (.ref x :: st) σ) ∧
  (∀ (l0 l1 l2 : Option Value) (q : Nat) (st : List Value) (σ : dS), den mX3_findIfs 31 [l0, l1, l2] (.ref q :: st) σ = (dget σ q 2 5).bind fun v => den mX3_findIfs 34 [l0, l1, l2] (v :: st) σ) ∧
  (∀ (l0 l2 : Option Value) (x : Int32) (st : List Value) (σ : dS), den mX3_findIfs 34 [l0, some (.int x), l2] st σ = den mX3_findIfs 35 [l0, some (.int x), l2] (.int x :: st) σ) ∧
  (∀ (l0 l1 : Option Value) (x : Int32) (st : List Value) (σ : dS), den mX3_findIfs 35 [l0, l1, some (.int x)] st σ = den mX3_findIfs 36 [l0, l1, some (.int x)] (.int x :: st) σ) ∧
  (∀ (l0 l1 l2 : Option Value) (q : Nat) (i x : Int32) (st : List Value) (σ : dS), den mX3_findIfs 36 [l0, l1, l2] (.int x :: .int i :: .ref q :: st) σ = (dast σ q 0 i x).bind fun τ => den mX3_findIfs 37 [l0, l1, l2] st τ) ∧
  (∀ (l2 : Option Value) (x : Int32) (y : Nat) (st : List Value) (σ : dS), den mX3_findIfs 37 [some (.ref y), some (.int x), l2] st σ = den mX3_findIfs 40 [some (.ref y), some (.int (x + nI 1)), l2] st σ) ∧
  (∀ (l0 : Option Value) (x : Int32) (y : Int32) (st : List Value) (σ : dS), den mX3_findIfs 40 [l0, some (.int y), some (.int x)] st σ = den mX3_findIfs 43 [l0, some (.int y), some (.int (x + nI 1))] st σ) ∧
  (∀ (l0 l1 l2 : Option Value) (st : List Value) (σ : dS), den mX3_findIfs 43 [l0, l1, l2] st σ = den mX3_findIfs 4 [l0, l1, l2] st σ) ∧
  (∀ (l0 l1 l2 : Option Value) (σ : dS), den mX3_findIfs 46 [l0, l1, l2] [] σ = some (none, σ)) :=
  ⟨fun l0 l1 l2 st σ => dn_iconst eX3_findIfs dX3_findIfs_0 kc_iconst_0,
  fun l1 l2 x y st σ => dn_istore_n eX3_findIfs dX3_findIfs_1 rfl,
  fun l0 l1 l2 st σ => dn_iconst eX3_findIfs dX3_findIfs_2 kc_iconst_0,
  fun l0 l2 x y st σ => dn_istore_n eX3_findIfs dX3_findIfs_3 rfl,
  fun l1 l2 x st σ => dn_aload_n eX3_findIfs dX3_findIfs_5 rfl,
  fun l0 l1 l2 q st σ => dn_getfield (f := (2, 7, 109)) eX3_findIfs dX3_findIfs_6 (by decide +kernel),
  fun l0 l1 l2 x y st σ => dn_icmp_ge eX3_findIfs dX3_findIfs_9 (by decide),
  fun l0 l2 x st σ => dn_iload_n eX3_findIfs dX3_findIfs_12 rfl,
  fun l1 l2 x st σ => dn_aload_n eX3_findIfs dX3_findIfs_13 rfl,
  fun l0 l1 l2 q st σ => dn_getfield (f := (2, 8, 115)) eX3_findIfs dX3_findIfs_14 (by decide +kernel),
  fun l0 l1 l2 x y st σ => dn_icmp_ge eX3_findIfs dX3_findIfs_17 (by decide),
  fun l1 l2 x st σ => dn_aload_n eX3_findIfs dX3_findIfs_20 rfl,
  fun l0 l1 l2 q st σ => dn_getfield (f := (2, 0, 84)) eX3_findIfs dX3_findIfs_21 (by decide +kernel),
  fun l0 l1 x st σ => dn_iload_n eX3_findIfs dX3_findIfs_24 rfl,
  fun l0 l1 l2 q i st σ => dn_iaload eX3_findIfs dX3_findIfs_25,
  fun l0 l1 l2 st σ => dn_iconst eX3_findIfs dX3_findIfs_26 kc_iconst_5,
  fun l0 l1 l2 x y st σ => dn_icmp_ne eX3_findIfs dX3_findIfs_27 (by decide),
  fun l1 l2 x st σ => dn_aload_n eX3_findIfs dX3_findIfs_30 rfl,
  fun l0 l1 l2 q st σ => dn_getfield (f := (2, 5, 105)) eX3_findIfs dX3_findIfs_31 (by decide +kernel),
  fun l0 l2 x st σ => dn_iload_n eX3_findIfs dX3_findIfs_34 rfl,
  fun l0 l1 x st σ => dn_iload_n eX3_findIfs dX3_findIfs_35 rfl,
  fun l0 l1 l2 q i x st σ => dn_iastore eX3_findIfs dX3_findIfs_36,
  fun l2 x y st σ => dn_iinc (v := nI 1) eX3_findIfs dX3_findIfs_37 rfl kc_iconst_1 rfl,
  fun l0 x y st σ => dn_iinc (v := nI 1) eX3_findIfs dX3_findIfs_40 rfl kc_iconst_1 rfl,
  fun l0 l1 l2 st σ => dn_goto eX3_findIfs dX3_findIfs_43 (by decide),
  fun l0 l1 l2 σ => dn_return eX3_findIfs dX3_findIfs_46 rfl⟩
theorem CX3_move (a0 : Nat) (a1 : Int32) (a2 : Int32) (σ : dS) : dcall mX3_move [.ref a0, .int a1, .int a2] σ = den mX3_move 0 [some (.ref a0), some (.int a1), some (.int a2)] [] σ := dcall_den (by decide) rfl
set_option maxRecDepth 20000 in
theorem SX3_move_0 : (∀ (l1 l2 : Option Value) (x : Nat) (st : List Value) (σ : dS), den mX3_move 0 [some (.ref x), l1, l2] st σ = den mX3_move 1 [some (.ref x), l1, l2] (.ref x :: st) σ) ∧
  (∀ (l0 l1 l2 : Option Value) (q : Nat) (st : List Value) (σ : dS), den mX3_move 1 [l0, l1, l2] (.ref q :: st) σ = (dget σ q 2 0).bind fun v => den mX3_move 4 [l0, l1, l2] (v :: st) σ) ∧
  (∀ (l0 l1 : Option Value) (x : Int32) (st : List Value) (σ : dS), den mX3_move 4 [l0, l1, some (.int x)] st σ = den mX3_move 5 [l0, l1, some (.int x)] (.int x :: st) σ) ∧
  (∀ (l1 l2 : Option Value) (x : Nat) (st : List Value) (σ : dS), den mX3_move 5 [some (.ref x), l1, l2] st σ = den mX3_move 6 [some (.ref x), l1, l2] (.ref x :: st) σ) ∧
  (∀ (l0 l1 l2 : Option Value) (q : Nat) (st : List Value) (σ : dS), den mX3_move 6 [l0, l1, l2] (.ref q :: st) σ = (dget σ q 2 0).bind fun v => den mX3_move 9 [l0, l1, l2] (v :: st) σ) ∧
  (∀ (l0 l2 : Option Value) (x : Int32) (st : List Value) (σ : dS), den mX3_move 9 [l0, some (.int x), l2] st σ = den mX3_move 10 [l0, some (.int x), l2] (.int x :: st) σ) ∧
  (∀ (l0 l1 l2 : Option Value) (q : Nat) (i : Int32) (st : List Value) (σ : dS), den mX3_move 10 [l0, l1, l2] (.int i :: .ref q :: st) σ = if q ≤ dN then (dald σ q 0 i).bind (fun v => den mX3_move 11 [l0, l1, l2] (.int v :: st) σ) else none) ∧
  (∀ (l0 l1 l2 : Option Value) (q : Nat) (i x : Int32) (st : List Value) (σ : dS), den mX3_move 11 [l0, l1, l2] (.int x :: .int i :: .ref q :: st) σ = (dast σ q 0 i x).bind fun τ => den mX3_move 12 [l0, l1, l2] st τ) ∧
  (∀ (l1 l2 : Option Value) (x : Nat) (st : List Value) (σ : dS), den mX3_move 12 [some (.ref x), l1, l2] st σ = den mX3_move 13 [some (.ref x), l1, l2] (.ref x :: st) σ) ∧
  (∀ (l0 l1 l2 : Option Value) (q : Nat) (st : List Value) (σ : dS), den mX3_move 13 [l0, l1, l2] (.ref q :: st) σ = (dget σ q 2 1).bind fun v => den mX3_move 16 [l0, l1, l2] (v :: st) σ) ∧
  (∀ (l0 l1 : Option Value) (x : Int32) (st : List Value) (σ : dS), den mX3_move 16 [l0, l1, some (.int x)] st σ = den mX3_move 17 [l0, l1, some (.int x)] (.int x :: st) σ) ∧
  (∀ (l1 l2 : Option Value) (x : Nat) (st : List Value) (σ : dS), den mX3_move 17 [some (.ref x), l1, l2] st σ = den mX3_move 18 [some (.ref x), l1, l2] (.ref x :: st) σ) ∧
  (∀ (l0 l1 l2 : Option Value) (q : Nat) (st : List Value) (σ : dS), den mX3_move 18 [l0, l1, l2] (.ref q :: st) σ = (dget σ q 2 1).bind fun v => den mX3_move 21 [l0, l1, l2] (v :: st) σ) ∧
  (∀ (l0 l2 : Option Value) (x : Int32) (st : List Value) (σ : dS), den mX3_move 21 [l0, some (.int x), l2] st σ = den mX3_move 22 [l0, some (.int x), l2] (.int x :: st) σ) ∧
  (∀ (l0 l1 l2 : Option Value) (q : Nat) (i : Int32) (st : List Value) (σ : dS), den mX3_move 22 [l0, l1, l2] (.int i :: .ref q :: st) σ = if q ≤ dN then (dald σ q 0 i).bind (fun v => den mX3_move 23 [l0, l1, l2] (.int v :: st) σ) else none) ∧
  (∀ (l0 l1 l2 : Option Value) (q : Nat) (i x : Int32) (st : List Value) (σ : dS), den mX3_move 23 [l0, l1, l2] (.int x :: .int i :: .ref q :: st) σ = (dast σ q 0 i x).bind fun τ => den mX3_move 24 [l0, l1, l2] st τ) ∧
  (∀ (l1 l2 : Option Value) (x : Nat) (st : List Value) (σ : dS), den mX3_move 24 [some (.ref x), l1, l2] st σ = den mX3_move 25 [some (.ref x), l1, l2] (.ref x :: st) σ) ∧
  (∀ (l0 l1 l2 : Option Value) (q : Nat) (st : List Value) (σ : dS), den mX3_move 25 [l0, l1, l2] (.ref q :: st) σ = (dget σ q 2 2).bind fun v => den mX3_move 28 [l0, l1, l2] (v :: st) σ) ∧
  (∀ (l0 l1 : Option Value) (x : Int32) (st : List Value) (σ : dS), den mX3_move 28 [l0, l1, some (.int x)] st σ = den mX3_move 29 [l0, l1, some (.int x)] (.int x :: st) σ) ∧
  (∀ (l1 l2 : Option Value) (x : Nat) (st : List Value) (σ : dS), den mX3_move 29 [some (.ref x), l1, l2] st σ = den mX3_move 30 [some (.ref x), l1, l2] (.ref x :: st) σ) ∧
  (∀ (l0 l1 l2 : Option Value) (q : Nat) (st : List Value) (σ : dS), den mX3_move 30 [l0, l1, l2] (.ref q :: st) σ = (dget σ q 2 2).bind fun v => den mX3_move 33 [l0, l1, l2] (v :: st) σ) ∧
  (∀ (l0 l2 : Option Value) (x : Int32) (st : List Value) (σ : dS), den mX3_move 33 [l0, some (.int x), l2] st σ = den mX3_move 34 [l0, some (.int x), l2] (.int x :: st) σ) ∧
  (∀ (l0 l1 l2 : Option Value) (q : Nat) (i : Int32) (st : List Value) (σ : dS), den mX3_move 34 [l0, l1, l2] (.int i :: .ref q :: st) σ = if q ≤ dN then (dald σ q 0 i).bind (fun v => den mX3_move 35 [l0, l1, l2] (.int v :: st) σ) else none) ∧
  (∀ (l0 l1 l2 : Option Value) (q : Nat) (i x : Int32) (st : List Value) (σ : dS), den mX3_move 35 [l0, l1, l2] (.int x :: .int i :: .ref q :: st) σ = (dast σ q 0 i x).bind fun τ => den mX3_move 36 [l0, l1, l2] st τ) ∧
  (∀ (l1 l2 : Option Value) (x : Nat) (st : List Value) (σ : dS), den mX3_move 36 [some (.ref x), l1, l2] st σ = den mX3_move 37 [some (.ref x), l1, l2] (.ref x :: st) σ) ∧
  (∀ (l0 l1 l2 : Option Value) (q : Nat) (st : List Value) (σ : dS), den mX3_move 37 [l0, l1, l2] (.ref q :: st) σ = (dget σ q 2 3).bind fun v => den mX3_move 40 [l0, l1, l2] (v :: st) σ) ∧
  (∀ (l0 l1 : Option Value) (x : Int32) (st : List Value) (σ : dS), den mX3_move 40 [l0, l1, some (.int x)] st σ = den mX3_move 41 [l0, l1, some (.int x)] (.int x :: st) σ) ∧
  (∀ (l1 l2 : Option Value) (x : Nat) (st : List Value) (σ : dS), den mX3_move 41 [some (.ref x), l1, l2] st σ = den mX3_move 42 [some (.ref x), l1, l2] (.ref x :: st) σ) ∧
  (∀ (l0 l1 l2 : Option Value) (q : Nat) (st : List Value) (σ : dS), den mX3_move 42 [l0, l1, l2] (.ref q :: st) σ = (dget σ q 2 3).bind fun v => den mX3_move 45 [l0, l1, l2] (v :: st) σ) ∧
  (∀ (l0 l2 : Option Value) (x : Int32) (st : List Value) (σ : dS), den mX3_move 45 [l0, some (.int x), l2] st σ = den mX3_move 46 [l0, some (.int x), l2] (.int x :: st) σ) ∧
  (∀ (l0 l1 l2 : Option Value) (q : Nat) (i : Int32) (st : List Value) (σ : dS), den mX3_move 46 [l0, l1, l2] (.int i :: .ref q :: st) σ = if q ≤ dN then (dald σ q 0 i).bind (fun v => den mX3_move 47 [l0, l1, l2] (.int v :: st) σ) else none) ∧
  (∀ (l0 l1 l2 : Option Value) (q : Nat) (i x : Int32) (st : List Value) (σ : dS), den mX3_move 47 [l0, l1, l2] (.int x :: .int i :: .ref q :: st) σ = (dast σ q 0 i x).bind fun τ => den mX3_move 48 [l0, l1, l2] st τ) ∧
  (∀ (l1 l2 : Option Value) (x : Nat) (st : List Value) (σ : dS), den mX3_move 48 [some (.ref x), l1, l2] st σ = den mX3_move 49 [some (.ref x), l1, l2] (.ref x :: st) σ) ∧
  (∀ (l0 l1 l2 : Option Value) (q : Nat) (st : List Value) (σ : dS), den mX3_move 49 [l0, l1, l2] (.ref q :: st) σ = (dget σ q 2 4).bind fun v => den mX3_move 52 [l0, l1, l2] (v :: st) σ) ∧
  (∀ (l0 l1 : Option Value) (x : Int32) (st : List Value) (σ : dS), den mX3_move 52 [l0, l1, some (.int x)] st σ = den mX3_move 53 [l0, l1, some (.int x)] (.int x :: st) σ) ∧
  (∀ (l1 l2 : Option Value) (x : Nat) (st : List Value) (σ : dS), den mX3_move 53 [some (.ref x), l1, l2] st σ = den mX3_move 54 [some (.ref x), l1, l2] (.ref x :: st) σ) ∧
  (∀ (l0 l1 l2 : Option Value) (q : Nat) (st : List Value) (σ : dS), den mX3_move 54 [l0, l1, l2] (.ref q :: st) σ = (dget σ q 2 4).bind fun v => den mX3_move 57 [l0, l1, l2] (v :: st) σ) ∧
  (∀ (l0 l2 : Option Value) (x : Int32) (st : List Value) (σ : dS), den mX3_move 57 [l0, some (.int x), l2] st σ = den mX3_move 58 [l0, some (.int x), l2] (.int x :: st) σ) ∧
  (∀ (l0 l1 l2 : Option Value) (q : Nat) (i : Int32) (st : List Value) (σ : dS), den mX3_move 58 [l0, l1, l2] (.int i :: .ref q :: st) σ = if q ≤ dN then (dald σ q 0 i).bind (fun v => den mX3_move 59 [l0, l1, l2] (.int v :: st) σ) else none) ∧
  (∀ (l0 l1 l2 : Option Value) (q : Nat) (i x : Int32) (st : List Value) (σ : dS), den mX3_move 59 [l0, l1, l2] (.int x :: .int i :: .ref q :: st) σ = (dast σ q 0 i x).bind fun τ => den mX3_move 60 [l0, l1, l2] st τ) :=
  ⟨fun l1 l2 x st σ => dn_aload_n eX3_move dX3_move_0 rfl,
  fun l0 l1 l2 q st σ => dn_getfield (f := (2, 0, 84)) eX3_move dX3_move_1 (by decide +kernel),
  fun l0 l1 x st σ => dn_iload_n eX3_move dX3_move_4 rfl,
  fun l1 l2 x st σ => dn_aload_n eX3_move dX3_move_5 rfl,
  fun l0 l1 l2 q st σ => dn_getfield (f := (2, 0, 84)) eX3_move dX3_move_6 (by decide +kernel),
  fun l0 l2 x st σ => dn_iload_n eX3_move dX3_move_9 rfl,
  fun l0 l1 l2 q i st σ => dn_iaload eX3_move dX3_move_10,
  fun l0 l1 l2 q i x st σ => dn_iastore eX3_move dX3_move_11,
  fun l1 l2 x st σ => dn_aload_n eX3_move dX3_move_12 rfl,
  fun l0 l1 l2 q st σ => dn_getfield (f := (2, 1, 89)) eX3_move dX3_move_13 (by decide +kernel),
  fun l0 l1 x st σ => dn_iload_n eX3_move dX3_move_16 rfl,
  fun l1 l2 x st σ => dn_aload_n eX3_move dX3_move_17 rfl,
  fun l0 l1 l2 q st σ => dn_getfield (f := (2, 1, 89)) eX3_move dX3_move_18 (by decide +kernel),
  fun l0 l2 x st σ => dn_iload_n eX3_move dX3_move_21 rfl,
  fun l0 l1 l2 q i st σ => dn_iaload eX3_move dX3_move_22,
  fun l0 l1 l2 q i x st σ => dn_iastore eX3_move dX3_move_23,
  fun l1 l2 x st σ => dn_aload_n eX3_move dX3_move_24 rfl,
  fun l0 l1 l2 q st σ => dn_getfield (f := (2, 2, 93)) eX3_move dX3_move_25 (by decide +kernel),
  fun l0 l1 x st σ => dn_iload_n eX3_move dX3_move_28 rfl,
  fun l1 l2 x st σ => dn_aload_n eX3_move dX3_move_29 rfl,
  fun l0 l1 l2 q st σ => dn_getfield (f := (2, 2, 93)) eX3_move dX3_move_30 (by decide +kernel),
  fun l0 l2 x st σ => dn_iload_n eX3_move dX3_move_33 rfl,
  fun l0 l1 l2 q i st σ => dn_iaload eX3_move dX3_move_34,
  fun l0 l1 l2 q i x st σ => dn_iastore eX3_move dX3_move_35,
  fun l1 l2 x st σ => dn_aload_n eX3_move dX3_move_36 rfl,
  fun l0 l1 l2 q st σ => dn_getfield (f := (2, 3, 97)) eX3_move dX3_move_37 (by decide +kernel),
  fun l0 l1 x st σ => dn_iload_n eX3_move dX3_move_40 rfl,
  fun l1 l2 x st σ => dn_aload_n eX3_move dX3_move_41 rfl,
  fun l0 l1 l2 q st σ => dn_getfield (f := (2, 3, 97)) eX3_move dX3_move_42 (by decide +kernel),
  fun l0 l2 x st σ => dn_iload_n eX3_move dX3_move_45 rfl,
  fun l0 l1 l2 q i st σ => dn_iaload eX3_move dX3_move_46,
  fun l0 l1 l2 q i x st σ => dn_iastore eX3_move dX3_move_47,
  fun l1 l2 x st σ => dn_aload_n eX3_move dX3_move_48 rfl,
  fun l0 l1 l2 q st σ => dn_getfield (f := (2, 4, 100)) eX3_move dX3_move_49 (by decide +kernel),
  fun l0 l1 x st σ => dn_iload_n eX3_move dX3_move_52 rfl,
  fun l1 l2 x st σ => dn_aload_n eX3_move dX3_move_53 rfl,
  fun l0 l1 l2 q st σ => dn_getfield (f := (2, 4, 100)) eX3_move dX3_move_54 (by decide +kernel),
  fun l0 l2 x st σ => dn_iload_n eX3_move dX3_move_57 rfl,
  fun l0 l1 l2 q i st σ => dn_iaload eX3_move dX3_move_58,
  fun l0 l1 l2 q i x st σ => dn_iastore eX3_move dX3_move_59⟩
theorem SX3_move_1 : (∀ (l0 l1 l2 : Option Value) (σ : dS), den mX3_move 60 [l0, l1, l2] [] σ = some (none, σ)) := fun l0 l1 l2 σ => dn_return eX3_move dX3_move_60 rfl
theorem CX3_dropUnread (a0 : Nat) (a1 : Int32) (σ : dS) : dcall mX3_dropUnread [.ref a0, .int a1] σ = den mX3_dropUnread 0 [some (.ref a0), some (.int a1), none, none] [] σ := dcall_den (by decide) rfl
theorem hX3_dropUnread_4 (l0 l1 l2 : Option Value) (x : Int32) (st : List Value) (σ : dS) : den mX3_dropUnread 4 [l0, l1, l2, some (.int x)] st σ = den mX3_dropUnread 5 [l0, l1, l2, some (.int x)] (.int x :: st) σ := dn_iload_n eX3_dropUnread dX3_dropUnread_4 rfl
theorem rX3_dropUnread_44 (l0 l1 l2 l3 : Option Value) (a0 : Int32) (a1 : Int32) (q : Nat) (σ : dS) : den mX3_dropUnread 44 [l0, l1, l2, l3] [.int a1, .int a0, .ref q] σ = if disO σ q 2 = true then ((dcall mX3_move [.ref q, .int a0, .int a1] σ).bind fun r => den mX3_dropUnread 47 [l0, l1, l2, l3] (r.1.toList ++ []) r.2) else none := by
  by_cases h : disO σ q 2 = true
  · rw [if_pos h]; exact dn_callV (e := (0, 46, 654)) (as := [.int a0, .int a1]) (rest := []) eX3_dropUnread dX3_dropUnread_44 (by decide +kernel) rfl (by decide +kernel) rfl (dcat_le rfl) (dlen_le rfl) rfl h
  · rw [if_neg h]; exact den_noV (e := (0, 46, 654)) (as := [.int a0, .int a1]) (rest := []) eX3_dropUnread dX3_dropUnread_44 (by decide +kernel) rfl rfl rfl h
theorem rX3_dropUnread_69 (l0 l1 l2 l3 : Option Value) (q : Nat) (σ : dS) : den mX3_dropUnread 69 [l0, l1, l2, l3] [.ref q] σ = if disO σ q 2 = true then ((dcall mX3_findIfs [.ref q] σ).bind fun r => den mX3_dropUnread 72 [l0, l1, l2, l3] (r.1.toList ++ []) r.2) else none := by
  by_cases h : disO σ q 2 = true
  · rw [if_pos h]; exact dn_callV (e := (0, 45, 658)) (as := []) (rest := []) eX3_dropUnread dX3_dropUnread_69 (by decide +kernel) rfl (by decide +kernel) rfl (dcat_le rfl) (dlen_le rfl) rfl h
  · rw [if_neg h]; exact den_noV (e := (0, 45, 658)) (as := []) (rest := []) eX3_dropUnread dX3_dropUnread_69 (by decide +kernel) rfl rfl rfl h
set_option maxRecDepth 20000 in
theorem SX3_dropUnread_0 : (∀ (l0 l1 l2 l3 : Option Value) (st : List Value) (σ : dS), den mX3_dropUnread 0 [l0, l1, l2, l3] st σ = den mX3_dropUnread 1 [l0, l1, l2, l3] (.int (nI 0) :: st) σ) ∧
  (∀ (l0 l2 l3 : Option Value) (x : Int32) (y : Int32) (st : List Value) (σ : dS), den mX3_dropUnread 1 [l0, some (.int y), l2, l3] (.int x :: st) σ = den mX3_dropUnread 2 [l0, some (.int y), some (.int x), l3] st σ) ∧
  (∀ (l0 l1 l2 l3 : Option Value) (st : List Value) (σ : dS), den mX3_dropUnread 2 [l0, l1, l2, l3] st σ = den mX3_dropUnread 3 [l0, l1, l2, l3] (.int (nI 0) :: st) σ) ∧
  (∀ (l0 l1 l3 : Option Value) (x : Int32) (y : Int32) (st : List Value) (σ : dS), den mX3_dropUnread 3 [l0, l1, some (.int y), l3] (.int x :: st) σ = den mX3_dropUnread 4 [l0, l1, some (.int y), some (.int x)] st σ) ∧
  (∀ (l1 l2 l3 : Option Value) (x : Nat) (st : List Value) (σ : dS), den mX3_dropUnread 5 [some (.ref x), l1, l2, l3] st σ = den mX3_dropUnread 6 [some (.ref x), l1, l2, l3] (.ref x :: st) σ) ∧
  (∀ (l0 l1 l2 l3 : Option Value) (q : Nat) (st : List Value) (σ : dS), den mX3_dropUnread 6 [l0, l1, l2, l3] (.ref q :: st) σ = (dget σ q 2 7).bind fun v => den mX3_dropUnread 9 [l0, l1, l2, l3] (v :: st) σ) ∧
  (∀ (l0 l1 l2 l3 : Option Value) (x y : Int32) (st : List Value) (σ : dS), den mX3_dropUnread 9 [l0, l1, l2, l3] (.int y :: .int x :: st) σ = if x < y then den mX3_dropUnread 12 [l0, l1, l2, l3] st σ else den mX3_dropUnread 56 [l0, l1, l2, l3] st σ) ∧
  (∀ (l1 l2 l3 : Option Value) (x : Nat) (st : List Value) (σ : dS), den mX3_dropUnread 12 [some (.ref x), l1, l2, l3] st σ = den mX3_dropUnread 13 [some (.ref x), l1, l2, l3] (.ref x :: st) σ) ∧
  (∀ (l0 l1 l2 l3 : Option Value) (q : Nat) (st : List Value) (σ : dS), den mX3_dropUnread 13 [l0, l1, l2, l3] (.ref q :: st) σ = (dget σ q 2 0).bind fun v => den mX3_dropUnread 16 [l0, l1, l2, l3] (v :: st) σ) ∧
  (∀ (l0 l1 l2 : Option Value) (x : Int32) (st : List Value) (σ : dS), den mX3_dropUnread 16 [l0, l1, l2, some (.int x)] st σ = den mX3_dropUnread 17 [l0, l1, l2, some (.int x)] (.int x :: st) σ) ∧
  (∀ (l0 l1 l2 l3 : Option Value) (q : Nat) (i : Int32) (st : List Value) (σ : dS), den mX3_dropUnread 17 [l0, l1, l2, l3] (.int i :: .ref q :: st) σ = if q ≤ dN then (dald σ q 0 i).bind (fun v => den mX3_dropUnread 18 [l0, l1, l2, l3] (.int v :: st) σ) else none) ∧
  (∀ (l0 l1 l2 l3 : Option Value) (st : List Value) (σ : dS), den mX3_dropUnread 18 [l0, l1, l2, l3] st σ = den mX3_dropUnread 19 [l0, l1, l2, l3] (.int (nI 4) :: st) σ) ∧
  (∀ (l0 l1 l2 l3 : Option Value) (x y : Int32) (st : List Value) (σ : dS), den mX3_dropUnread 19 [l0, l1, l2, l3] (.int y :: .int x :: st) σ = if x = y then den mX3_dropUnread 41 [l0, l1, l2, l3] st σ else den mX3_dropUnread 22 [l0, l1, l2, l3] st σ) ∧
  (∀ (l1 l2 l3 : Option Value) (x : Nat) (st : List Value) (σ : dS), den mX3_dropUnread 22 [some (.ref x), l1, l2, l3] st σ = den mX3_dropUnread 23 [some (.ref x), l1, l2, l3] (.ref x :: st) σ) ∧
  (∀ (l0 l1 l2 l3 : Option Value) (q : Nat) (st : List Value) (σ : dS), den mX3_dropUnread 23 [l0, l1, l2, l3] (.ref q :: st) σ = (dget σ q 2 0).bind fun v => den mX3_dropUnread 26 [l0, l1, l2, l3] (v :: st) σ) ∧
  (∀ (l0 l1 l2 : Option Value) (x : Int32) (st : List Value) (σ : dS), den mX3_dropUnread 26 [l0, l1, l2, some (.int x)] st σ = den mX3_dropUnread 27 [l0, l1, l2, some (.int x)] (.int x :: st) σ) ∧
  (∀ (l0 l1 l2 l3 : Option Value) (q : Nat) (i : Int32) (st : List Value) (σ : dS), den mX3_dropUnread 27 [l0, l1, l2, l3] (.int i :: .ref q :: st) σ = if q ≤ dN then (dald σ q 0 i).bind (fun v => den mX3_dropUnread 28 [l0, l1, l2, l3] (.int v :: st) σ) else none) ∧
  (∀ (l0 l1 l2 l3 : Option Value) (st : List Value) (σ : dS), den mX3_dropUnread 28 [l0, l1, l2, l3] st σ = den mX3_dropUnread 29 [l0, l1, l2, l3] (.int (nI 5) :: st) σ) ∧
  (∀ (l0 l1 l2 l3 : Option Value) (x y : Int32) (st : List Value) (σ : dS), den mX3_dropUnread 29 [l0, l1, l2, l3] (.int y :: .int x :: st) σ = if x = y then den mX3_dropUnread 41 [l0, l1, l2, l3] st σ else den mX3_dropUnread 32 [l0, l1, l2, l3] st σ) ∧
  (∀ (l0 l2 l3 : Option Value) (x : Int32) (st : List Value) (σ : dS), den mX3_dropUnread 32 [l0, some (.int x), l2, l3] st σ = den mX3_dropUnread 33 [l0, some (.int x), l2, l3] (.int x :: st) σ) ∧
  (∀ (l0 l1 l2 : Option Value) (x : Int32) (st : List Value) (σ : dS), den mX3_dropUnread 33 [l0, l1, l2, some (.int x)] st σ = den mX3_dropUnread 34 [l0, l1, l2, some (.int x)] (.int x :: st) σ) ∧
  (∀ (l0 l1 l2 l3 : Option Value) (x y : Int32) (st : List Value) (σ : dS), den mX3_dropUnread 34 [l0, l1, l2, l3] (.int y :: .int x :: st) σ = den mX3_dropUnread 35 [l0, l1, l2, l3] (.int (x >>> (y &&& 31)) :: st) σ) ∧
  (∀ (l0 l1 l2 l3 : Option Value) (st : List Value) (σ : dS), den mX3_dropUnread 35 [l0, l1, l2, l3] st σ = den mX3_dropUnread 36 [l0, l1, l2, l3] (.int (nI 1) :: st) σ) ∧
  (∀ (l0 l1 l2 l3 : Option Value) (x y : Int32) (st : List Value) (σ : dS), den mX3_dropUnread 36 [l0, l1, l2, l3] (.int y :: .int x :: st) σ = den mX3_dropUnread 37 [l0, l1, l2, l3] (.int (x &&& y) :: st) σ) ∧
  (∀ (l0 l1 l2 l3 : Option Value) (st : List Value) (σ : dS), den mX3_dropUnread 37 [l0, l1, l2, l3] st σ = den mX3_dropUnread 38 [l0, l1, l2, l3] (.int (nI 1) :: st) σ) ∧
  (∀ (l0 l1 l2 l3 : Option Value) (x y : Int32) (st : List Value) (σ : dS), den mX3_dropUnread 38 [l0, l1, l2, l3] (.int y :: .int x :: st) σ = if x = y then den mX3_dropUnread 41 [l0, l1, l2, l3] st σ else den mX3_dropUnread 50 [l0, l1, l2, l3] st σ) ∧
  (∀ (l1 l2 l3 : Option Value) (x : Nat) (st : List Value) (σ : dS), den mX3_dropUnread 41 [some (.ref x), l1, l2, l3] st σ = den mX3_dropUnread 42 [some (.ref x), l1, l2, l3] (.ref x :: st) σ) ∧
  (∀ (l0 l1 l2 : Option Value) (x : Int32) (st : List Value) (σ : dS), den mX3_dropUnread 42 [l0, l1, l2, some (.int x)] st σ = den mX3_dropUnread 43 [l0, l1, l2, some (.int x)] (.int x :: st) σ) ∧
  (∀ (l0 l1 l3 : Option Value) (x : Int32) (st : List Value) (σ : dS), den mX3_dropUnread 43 [l0, l1, some (.int x), l3] st σ = den mX3_dropUnread 44 [l0, l1, some (.int x), l3] (.int x :: st) σ) ∧
  (∀ (l0 l1 l2 l3 : Option Value) (a0 : Int32) (a1 : Int32) (q : Nat) (σ : dS), den mX3_dropUnread 44 [l0, l1, l2, l3] [.int a1, .int a0, .ref q] σ = if disO σ q 2 = true then ((dcall mX3_move [.ref q, .int a0, .int a1] σ).bind fun r => den mX3_dropUnread 47 [l0, l1, l2, l3] (r.1.toList ++ []) r.2) else none) ∧
  (∀ (l0 l3 : Option Value) (x : Int32) (y : Int32) (st : List Value) (σ : dS), den mX3_dropUnread 47 [l0, some (.int y), some (.int x), l3] st σ = den mX3_dropUnread 50 [l0, some (.int y), some (.int (x + nI 1)), l3] st σ) ∧
  (∀ (l0 l1 : Option Value) (x : Int32) (y : Int32) (st : List Value) (σ : dS), den mX3_dropUnread 50 [l0, l1, some (.int y), some (.int x)] st σ = den mX3_dropUnread 53 [l0, l1, some (.int y), some (.int (x + nI 1))] st σ) ∧
  (∀ (l0 l1 l2 l3 : Option Value) (st : List Value) (σ : dS), den mX3_dropUnread 53 [l0, l1, l2, l3] st σ = den mX3_dropUnread 4 [l0, l1, l2, l3] st σ) ∧
  (∀ (l1 l2 l3 : Option Value) (x : Nat) (st : List Value) (σ : dS), den mX3_dropUnread 56 [some (.ref x), l1, l2, l3] st σ = den mX3_dropUnread 57 [some (.ref x), l1, l2, l3] (.ref x :: st) σ) ∧
  (∀ (l0 l1 l2 l3 : Option Value) (q : Nat) (st : List Value) (σ : dS), den mX3_dropUnread 57 [l0, l1, l2, l3] (.ref q :: st) σ = (dget σ q 2 7).bind fun v => den mX3_dropUnread 60 [l0, l1, l2, l3] (v :: st) σ) ∧
  (∀ (l0 l1 l3 : Option Value) (x : Int32) (st : List Value) (σ : dS), den mX3_dropUnread 60 [l0, l1, some (.int x), l3] st σ = den mX3_dropUnread 61 [l0, l1, some (.int x), l3] (.int x :: st) σ) ∧
  (∀ (l0 l1 l2 l3 : Option Value) (x y : Int32) (st : List Value) (σ : dS), den mX3_dropUnread 61 [l0, l1, l2, l3] (.int y :: .int x :: st) σ = den mX3_dropUnread 62 [l0, l1, l2, l3] (.int (x - y) :: st) σ) ∧
  (∀ (l0 l1 l3 : Option Value) (x : Int32) (y : Int32) (st : List Value) (σ : dS), den mX3_dropUnread 62 [l0, l1, some (.int y), l3] (.int x :: st) σ = den mX3_dropUnread 63 [l0, l1, some (.int y), some (.int x)] st σ) ∧
  (∀ (l1 l2 l3 : Option Value) (x : Nat) (st : List Value) (σ : dS), den mX3_dropUnread 63 [some (.ref x), l1, l2, l3] st σ = den mX3_dropUnread 64 [some (.ref x), l1, l2, l3] (.ref x :: st) σ) ∧
  (∀ (l0 l1 l3 : Option Value) (x : Int32) (st : List Value) (σ : dS), den mX3_dropUnread 64 [l0, l1, some (.int x), l3] st σ = den mX3_dropUnread 65 [l0, l1, some (.int x), l3] (.int x :: st) σ) :=
  ⟨fun l0 l1 l2 l3 st σ => dn_iconst eX3_dropUnread dX3_dropUnread_0 kc_iconst_0,
  fun l0 l2 l3 x y st σ => dn_istore_n eX3_dropUnread dX3_dropUnread_1 rfl,
  fun l0 l1 l2 l3 st σ => dn_iconst eX3_dropUnread dX3_dropUnread_2 kc_iconst_0,
  fun l0 l1 l3 x y st σ => dn_istore_n eX3_dropUnread dX3_dropUnread_3 rfl,
  fun l1 l2 l3 x st σ => dn_aload_n eX3_dropUnread dX3_dropUnread_5 rfl,
  fun l0 l1 l2 l3 q st σ => dn_getfield (f := (2, 7, 109)) eX3_dropUnread dX3_dropUnread_6 (by decide +kernel),
  fun l0 l1 l2 l3 x y st σ => dn_icmp_ge eX3_dropUnread dX3_dropUnread_9 (by decide),
  fun l1 l2 l3 x st σ => dn_aload_n eX3_dropUnread dX3_dropUnread_12 rfl,
  fun l0 l1 l2 l3 q st σ => dn_getfield (f := (2, 0, 84)) eX3_dropUnread dX3_dropUnread_13 (by decide +kernel),
  fun l0 l1 l2 x st σ => dn_iload_n eX3_dropUnread dX3_dropUnread_16 rfl,
  fun l0 l1 l2 l3 q i st σ => dn_iaload eX3_dropUnread dX3_dropUnread_17,
  fun l0 l1 l2 l3 st σ => dn_iconst eX3_dropUnread dX3_dropUnread_18 kc_iconst_4,
  fun l0 l1 l2 l3 x y st σ => dn_icmp_eq eX3_dropUnread dX3_dropUnread_19 (by decide),
  fun l1 l2 l3 x st σ => dn_aload_n eX3_dropUnread dX3_dropUnread_22 rfl,
  fun l0 l1 l2 l3 q st σ => dn_getfield (f := (2, 0, 84)) eX3_dropUnread dX3_dropUnread_23 (by decide +kernel),
  fun l0 l1 l2 x st σ => dn_iload_n eX3_dropUnread dX3_dropUnread_26 rfl,
  fun l0 l1 l2 l3 q i st σ => dn_iaload eX3_dropUnread dX3_dropUnread_27,
  fun l0 l1 l2 l3 st σ => dn_iconst eX3_dropUnread dX3_dropUnread_28 kc_iconst_5,
  fun l0 l1 l2 l3 x y st σ => dn_icmp_eq eX3_dropUnread dX3_dropUnread_29 (by decide),
  fun l0 l2 l3 x st σ => dn_iload_n eX3_dropUnread dX3_dropUnread_32 rfl,
  fun l0 l1 l2 x st σ => dn_iload_n eX3_dropUnread dX3_dropUnread_33 rfl,
  fun l0 l1 l2 l3 x y st σ => dn_ishr eX3_dropUnread dX3_dropUnread_34,
  fun l0 l1 l2 l3 st σ => dn_iconst eX3_dropUnread dX3_dropUnread_35 kc_iconst_1,
  fun l0 l1 l2 l3 x y st σ => dn_iand eX3_dropUnread dX3_dropUnread_36,
  fun l0 l1 l2 l3 st σ => dn_iconst eX3_dropUnread dX3_dropUnread_37 kc_iconst_1,
  fun l0 l1 l2 l3 x y st σ => dn_icmp_ne eX3_dropUnread dX3_dropUnread_38 (by decide),
  fun l1 l2 l3 x st σ => dn_aload_n eX3_dropUnread dX3_dropUnread_41 rfl,
  fun l0 l1 l2 x st σ => dn_iload_n eX3_dropUnread dX3_dropUnread_42 rfl,
  fun l0 l1 l3 x st σ => dn_iload_n eX3_dropUnread dX3_dropUnread_43 rfl,
  fun l0 l1 l2 l3 a0 a1 q σ => rX3_dropUnread_44 l0 l1 l2 l3 a0 a1 q σ,
  fun l0 l3 x y st σ => dn_iinc (v := nI 1) eX3_dropUnread dX3_dropUnread_47 rfl kc_iconst_1 rfl,
  fun l0 l1 x y st σ => dn_iinc (v := nI 1) eX3_dropUnread dX3_dropUnread_50 rfl kc_iconst_1 rfl,
  fun l0 l1 l2 l3 st σ => dn_goto eX3_dropUnread dX3_dropUnread_53 (by decide),
  fun l1 l2 l3 x st σ => dn_aload_n eX3_dropUnread dX3_dropUnread_56 rfl,
  fun l0 l1 l2 l3 q st σ => dn_getfield (f := (2, 7, 109)) eX3_dropUnread dX3_dropUnread_57 (by decide +kernel),
  fun l0 l1 l3 x st σ => dn_iload_n eX3_dropUnread dX3_dropUnread_60 rfl,
  fun l0 l1 l2 l3 x y st σ => dn_isub eX3_dropUnread dX3_dropUnread_61,
  fun l0 l1 l3 x y st σ => dn_istore_n eX3_dropUnread dX3_dropUnread_62 rfl,
  fun l1 l2 l3 x st σ => dn_aload_n eX3_dropUnread dX3_dropUnread_63 rfl,
  fun l0 l1 l3 x st σ => dn_iload_n eX3_dropUnread dX3_dropUnread_64 rfl⟩
set_option maxRecDepth 20000 in
theorem SX3_dropUnread_1 : (∀ (l0 l1 l2 l3 : Option Value) (x : Int32) (q : Nat) (st : List Value) (σ : dS), den mX3_dropUnread 65 [l0, l1, l2, l3] (.int x :: .ref q :: st) σ = (dput σ q 2 7 (.int x)).bind fun τ => den mX3_dropUnread 68 [l0, l1, l2, l3] st τ) ∧
  (∀ (l1 l2 l3 : Option Value) (x : Nat) (st : List Value) (σ : dS), den mX3_dropUnread 68 [some (.ref x), l1, l2, l3] st σ = den mX3_dropUnread 69 [some (.ref x), l1, l2, l3] (.ref x :: st) σ) ∧
  (∀ (l0 l1 l2 l3 : Option Value) (q : Nat) (σ : dS), den mX3_dropUnread 69 [l0, l1, l2, l3] [.ref q] σ = if disO σ q 2 = true then ((dcall mX3_findIfs [.ref q] σ).bind fun r => den mX3_dropUnread 72 [l0, l1, l2, l3] (r.1.toList ++ []) r.2) else none) ∧
  (∀ (l0 l1 l2 : Option Value) (x : Int32) (st : List Value) (σ : dS), den mX3_dropUnread 72 [l0, l1, l2, some (.int x)] st σ = den mX3_dropUnread 73 [l0, l1, l2, some (.int x)] (.int x :: st) σ) ∧
  (∀ (l0 l1 l2 l3 : Option Value) (v : Int32) (σ : dS), den mX3_dropUnread 73 [l0, l1, l2, l3] [.int v] σ = some (some (.int v), σ)) :=
  ⟨fun l0 l1 l2 l3 x q st σ => dn_putfield (f := (2, 7, 109)) (ty := .int) eX3_dropUnread dX3_dropUnread_65 (by decide +kernel) (by decide +kernel) rfl,
  fun l1 l2 l3 x st σ => dn_aload_n eX3_dropUnread dX3_dropUnread_68 rfl,
  fun l0 l1 l2 l3 q σ => rX3_dropUnread_69 l0 l1 l2 l3 q σ,
  fun l0 l1 l2 x st σ => dn_iload_n eX3_dropUnread dX3_dropUnread_72 rfl,
  fun l0 l1 l2 l3 v σ => dn_ireturn eX3_dropUnread dX3_dropUnread_73 rfl⟩
theorem CX3_firstUnder (a0 : Nat) (a1 : Int32) (σ : dS) : dcall mX3_firstUnder [.ref a0, .int a1] σ = den mX3_firstUnder 0 [some (.ref a0), some (.int a1), none] [] σ := dcall_den (by decide) rfl
theorem hX3_firstUnder_2 (l0 l1 : Option Value) (x : Int32) (st : List Value) (σ : dS) : den mX3_firstUnder 2 [l0, l1, some (.int x)] st σ = den mX3_firstUnder 3 [l0, l1, some (.int x)] (.int x :: st) σ := dn_iload_n eX3_firstUnder dX3_firstUnder_2 rfl
set_option maxRecDepth 20000 in
theorem SX3_firstUnder : (∀ (l0 l1 l2 : Option Value) (st : List Value) (σ : dS), den mX3_firstUnder 0 [l0, l1, l2] st σ = den mX3_firstUnder 1 [l0, l1, l2] (.int (nI 0) :: st) σ) ∧
  (∀ (l0 l2 : Option Value) (x : Int32) (y : Int32) (st : List Value) (σ : dS), den mX3_firstUnder 1 [l0, some (.int y), l2] (.int x :: st) σ = den mX3_firstUnder 2 [l0, some (.int y), some (.int x)] st σ) ∧
  (∀ (l1 l2 : Option Value) (x : Nat) (st : List Value) (σ : dS), den mX3_firstUnder 3 [some (.ref x), l1, l2] st σ = den mX3_firstUnder 4 [some (.ref x), l1, l2] (.ref x :: st) σ) ∧
  (∀ (l0 l1 l2 : Option Value) (q : Nat) (st : List Value) (σ : dS), den mX3_firstUnder 4 [l0, l1, l2] (.ref q :: st) σ = (dget σ q 2 7).bind fun v => den mX3_firstUnder 7 [l0, l1, l2] (v :: st) σ) ∧
  (∀ (l0 l1 l2 : Option Value) (x y : Int32) (st : List Value) (σ : dS), den mX3_firstUnder 7 [l0, l1, l2] (.int y :: .int x :: st) σ = if x < y then den mX3_firstUnder 10 [l0, l1, l2] st σ else den mX3_firstUnder 28 [l0, l1, l2] st σ) ∧
  (∀ (l1 l2 : Option Value) (x : Nat) (st : List Value) (σ : dS), den mX3_firstUnder 10 [some (.ref x), l1, l2] st σ = den mX3_firstUnder 11 [some (.ref x), l1, l2] (.ref x :: st) σ) ∧
  (∀ (l0 l1 l2 : Option Value) (q : Nat) (st : List Value) (σ : dS), den mX3_firstUnder 11 [l0, l1, l2] (.ref q :: st) σ = (dget σ q 2 4).bind fun v => den mX3_firstUnder 14 [l0, l1, l2] (v :: st) σ) ∧
  (∀ (l0 l1 : Option Value) (x : Int32) (st : List Value) (σ : dS), den mX3_firstUnder 14 [l0, l1, some (.int x)] st σ = den mX3_firstUnder 15 [l0, l1, some (.int x)] (.int x :: st) σ) ∧
  (∀ (l0 l1 l2 : Option Value) (q : Nat) (i : Int32) (st : List Value) (σ : dS), den mX3_firstUnder 15 [l0, l1, l2] (.int i :: .ref q :: st) σ = if q ≤ dN then (dald σ q 0 i).bind (fun v => den mX3_firstUnder 16 [l0, l1, l2] (.int v :: st) σ) else none) ∧
  (∀ (l0 l2 : Option Value) (x : Int32) (st : List Value) (σ : dS), den mX3_firstUnder 16 [l0, some (.int x), l2] st σ = den mX3_firstUnder 17 [l0, some (.int x), l2] (.int x :: st) σ) ∧
  (∀ (l0 l1 l2 : Option Value) (x y : Int32) (st : List Value) (σ : dS), den mX3_firstUnder 17 [l0, l1, l2] (.int y :: .int x :: st) σ = if x = y then den mX3_firstUnder 20 [l0, l1, l2] st σ else den mX3_firstUnder 22 [l0, l1, l2] st σ) ∧
  (∀ (l0 l1 : Option Value) (x : Int32) (st : List Value) (σ : dS), den mX3_firstUnder 20 [l0, l1, some (.int x)] st σ = den mX3_firstUnder 21 [l0, l1, some (.int x)] (.int x :: st) σ) ∧
  (∀ (l0 l1 l2 : Option Value) (v : Int32) (σ : dS), den mX3_firstUnder 21 [l0, l1, l2] [.int v] σ = some (some (.int v), σ)) ∧
  (∀ (l0 : Option Value) (x : Int32) (y : Int32) (st : List Value) (σ : dS), den mX3_firstUnder 22 [l0, some (.int y), some (.int x)] st σ = den mX3_firstUnder 25 [l0, some (.int y), some (.int (x + nI 1))] st σ) ∧
  (∀ (l0 l1 l2 : Option Value) (st : List Value) (σ : dS), den mX3_firstUnder 25 [l0, l1, l2] st σ = den mX3_firstUnder 2 [l0, l1, l2] st σ) ∧
  (∀ (l0 l1 l2 : Option Value) (st : List Value) (σ : dS), den mX3_firstUnder 28 [l0, l1, l2] st σ = den mX3_firstUnder 30 [l0, l1, l2] (.int ((-4)) :: st) σ) ∧
  (∀ (l0 l1 l2 : Option Value) (v : Int32) (σ : dS), den mX3_firstUnder 30 [l0, l1, l2] [.int v] σ = some (some (.int v), σ)) :=
  ⟨fun l0 l1 l2 st σ => dn_iconst eX3_firstUnder dX3_firstUnder_0 kc_iconst_0,
  fun l0 l2 x y st σ => dn_istore_n eX3_firstUnder dX3_firstUnder_1 rfl,
  fun l1 l2 x st σ => dn_aload_n eX3_firstUnder dX3_firstUnder_3 rfl,
  fun l0 l1 l2 q st σ => dn_getfield (f := (2, 7, 109)) eX3_firstUnder dX3_firstUnder_4 (by decide +kernel),
  fun l0 l1 l2 x y st σ => dn_icmp_ge eX3_firstUnder dX3_firstUnder_7 (by decide),
  fun l1 l2 x st σ => dn_aload_n eX3_firstUnder dX3_firstUnder_10 rfl,
  fun l0 l1 l2 q st σ => dn_getfield (f := (2, 4, 100)) eX3_firstUnder dX3_firstUnder_11 (by decide +kernel),
  fun l0 l1 x st σ => dn_iload_n eX3_firstUnder dX3_firstUnder_14 rfl,
  fun l0 l1 l2 q i st σ => dn_iaload eX3_firstUnder dX3_firstUnder_15,
  fun l0 l2 x st σ => dn_iload_n eX3_firstUnder dX3_firstUnder_16 rfl,
  fun l0 l1 l2 x y st σ => dn_icmp_ne eX3_firstUnder dX3_firstUnder_17 (by decide),
  fun l0 l1 x st σ => dn_iload_n eX3_firstUnder dX3_firstUnder_20 rfl,
  fun l0 l1 l2 v σ => dn_ireturn eX3_firstUnder dX3_firstUnder_21 rfl,
  fun l0 x y st σ => dn_iinc (v := nI 1) eX3_firstUnder dX3_firstUnder_22 rfl kc_iconst_1 rfl,
  fun l0 l1 l2 st σ => dn_goto eX3_firstUnder dX3_firstUnder_25 (by decide),
  fun l0 l1 l2 st σ => dn_bipush eX3_firstUnder dX3_firstUnder_28 kc_bipush_m4,
  fun l0 l1 l2 v σ => dn_ireturn eX3_firstUnder dX3_firstUnder_30 rfl⟩
theorem CX3_areAlike (a0 : Nat) (a1 : Int32) (a2 : Int32) (σ : dS) : dcall mX3_areAlike [.ref a0, .int a1, .int a2] σ = den mX3_areAlike 0 [some (.ref a0), some (.int a1), some (.int a2)] [] σ := dcall_den (by decide) rfl
set_option maxRecDepth 20000 in
theorem SX3_areAlike : (∀ (l1 l2 : Option Value) (x : Nat) (st : List Value) (σ : dS), den mX3_areAlike 0 [some (.ref x), l1, l2] st σ = den mX3_areAlike 1 [some (.ref x), l1, l2] (.ref x :: st) σ) ∧
  (∀ (l0 l1 l2 : Option Value) (q : Nat) (st : List Value) (σ : dS), den mX3_areAlike 1 [l0, l1, l2] (.ref q :: st) σ = (dget σ q 2 0).bind fun v => den mX3_areAlike 4 [l0, l1, l2] (v :: st) σ) ∧
  (∀ (l0 l2 : Option Value) (x : Int32) (st : List Value) (σ : dS), den mX3_areAlike 4 [l0, some (.int x), l2] st σ = den mX3_areAlike 5 [l0, some (.int x), l2] (.int x :: st) σ) ∧
  (∀ (l0 l1 l2 : Option Value) (q : Nat) (i : Int32) (st : List Value) (σ : dS), den mX3_areAlike 5 [l0, l1, l2] (.int i :: .ref q :: st) σ = if q ≤ dN then (dald σ q 0 i).bind (fun v => den mX3_areAlike 6 [l0, l1, l2] (.int v :: st) σ) else none) ∧
  (∀ (l1 l2 : Option Value) (x : Nat) (st : List Value) (σ : dS), den mX3_areAlike 6 [some (.ref x), l1, l2] st σ = den mX3_areAlike 7 [some (.ref x), l1, l2] (.ref x :: st) σ) ∧
  (∀ (l0 l1 l2 : Option Value) (q : Nat) (st : List Value) (σ : dS), den mX3_areAlike 7 [l0, l1, l2] (.ref q :: st) σ = (dget σ q 2 0).bind fun v => den mX3_areAlike 10 [l0, l1, l2] (v :: st) σ) ∧
  (∀ (l0 l1 : Option Value) (x : Int32) (st : List Value) (σ : dS), den mX3_areAlike 10 [l0, l1, some (.int x)] st σ = den mX3_areAlike 11 [l0, l1, some (.int x)] (.int x :: st) σ) ∧
  (∀ (l0 l1 l2 : Option Value) (q : Nat) (i : Int32) (st : List Value) (σ : dS), den mX3_areAlike 11 [l0, l1, l2] (.int i :: .ref q :: st) σ = if q ≤ dN then (dald σ q 0 i).bind (fun v => den mX3_areAlike 12 [l0, l1, l2] (.int v :: st) σ) else none) ∧
  (∀ (l0 l1 l2 : Option Value) (x y : Int32) (st : List Value) (σ : dS), den mX3_areAlike 12 [l0, l1, l2] (.int y :: .int x :: st) σ = if x = y then den mX3_areAlike 15 [l0, l1, l2] st σ else den mX3_areAlike 64 [l0, l1, l2] st σ) ∧
  (∀ (l1 l2 : Option Value) (x : Nat) (st : List Value) (σ : dS), den mX3_areAlike 15 [some (.ref x), l1, l2] st σ = den mX3_areAlike 16 [some (.ref x), l1, l2] (.ref x :: st) σ) ∧
  (∀ (l0 l1 l2 : Option Value) (q : Nat) (st : List Value) (σ : dS), den mX3_areAlike 16 [l0, l1, l2] (.ref q :: st) σ = (dget σ q 2 1).bind fun v => den mX3_areAlike 19 [l0, l1, l2] (v :: st) σ) ∧
  (∀ (l0 l2 : Option Value) (x : Int32) (st : List Value) (σ : dS), den mX3_areAlike 19 [l0, some (.int x), l2] st σ = den mX3_areAlike 20 [l0, some (.int x), l2] (.int x :: st) σ) ∧
  (∀ (l0 l1 l2 : Option Value) (q : Nat) (i : Int32) (st : List Value) (σ : dS), den mX3_areAlike 20 [l0, l1, l2] (.int i :: .ref q :: st) σ = if q ≤ dN then (dald σ q 0 i).bind (fun v => den mX3_areAlike 21 [l0, l1, l2] (.int v :: st) σ) else none) ∧
  (∀ (l1 l2 : Option Value) (x : Nat) (st : List Value) (σ : dS), den mX3_areAlike 21 [some (.ref x), l1, l2] st σ = den mX3_areAlike 22 [some (.ref x), l1, l2] (.ref x :: st) σ) ∧
  (∀ (l0 l1 l2 : Option Value) (q : Nat) (st : List Value) (σ : dS), den mX3_areAlike 22 [l0, l1, l2] (.ref q :: st) σ = (dget σ q 2 1).bind fun v => den mX3_areAlike 25 [l0, l1, l2] (v :: st) σ) ∧
  (∀ (l0 l1 : Option Value) (x : Int32) (st : List Value) (σ : dS), den mX3_areAlike 25 [l0, l1, some (.int x)] st σ = den mX3_areAlike 26 [l0, l1, some (.int x)] (.int x :: st) σ) ∧
  (∀ (l0 l1 l2 : Option Value) (q : Nat) (i : Int32) (st : List Value) (σ : dS), den mX3_areAlike 26 [l0, l1, l2] (.int i :: .ref q :: st) σ = if q ≤ dN then (dald σ q 0 i).bind (fun v => den mX3_areAlike 27 [l0, l1, l2] (.int v :: st) σ) else none) ∧
  (∀ (l0 l1 l2 : Option Value) (x y : Int32) (st : List Value) (σ : dS), den mX3_areAlike 27 [l0, l1, l2] (.int y :: .int x :: st) σ = if x = y then den mX3_areAlike 30 [l0, l1, l2] st σ else den mX3_areAlike 64 [l0, l1, l2] st σ) ∧
  (∀ (l1 l2 : Option Value) (x : Nat) (st : List Value) (σ : dS), den mX3_areAlike 30 [some (.ref x), l1, l2] st σ = den mX3_areAlike 31 [some (.ref x), l1, l2] (.ref x :: st) σ) ∧
  (∀ (l0 l1 l2 : Option Value) (q : Nat) (st : List Value) (σ : dS), den mX3_areAlike 31 [l0, l1, l2] (.ref q :: st) σ = (dget σ q 2 2).bind fun v => den mX3_areAlike 34 [l0, l1, l2] (v :: st) σ) ∧
  (∀ (l0 l2 : Option Value) (x : Int32) (st : List Value) (σ : dS), den mX3_areAlike 34 [l0, some (.int x), l2] st σ = den mX3_areAlike 35 [l0, some (.int x), l2] (.int x :: st) σ) ∧
  (∀ (l0 l1 l2 : Option Value) (q : Nat) (i : Int32) (st : List Value) (σ : dS), den mX3_areAlike 35 [l0, l1, l2] (.int i :: .ref q :: st) σ = if q ≤ dN then (dald σ q 0 i).bind (fun v => den mX3_areAlike 36 [l0, l1, l2] (.int v :: st) σ) else none) ∧
  (∀ (l1 l2 : Option Value) (x : Nat) (st : List Value) (σ : dS), den mX3_areAlike 36 [some (.ref x), l1, l2] st σ = den mX3_areAlike 37 [some (.ref x), l1, l2] (.ref x :: st) σ) ∧
  (∀ (l0 l1 l2 : Option Value) (q : Nat) (st : List Value) (σ : dS), den mX3_areAlike 37 [l0, l1, l2] (.ref q :: st) σ = (dget σ q 2 2).bind fun v => den mX3_areAlike 40 [l0, l1, l2] (v :: st) σ) ∧
  (∀ (l0 l1 : Option Value) (x : Int32) (st : List Value) (σ : dS), den mX3_areAlike 40 [l0, l1, some (.int x)] st σ = den mX3_areAlike 41 [l0, l1, some (.int x)] (.int x :: st) σ) ∧
  (∀ (l0 l1 l2 : Option Value) (q : Nat) (i : Int32) (st : List Value) (σ : dS), den mX3_areAlike 41 [l0, l1, l2] (.int i :: .ref q :: st) σ = if q ≤ dN then (dald σ q 0 i).bind (fun v => den mX3_areAlike 42 [l0, l1, l2] (.int v :: st) σ) else none) ∧
  (∀ (l0 l1 l2 : Option Value) (x y : Int32) (st : List Value) (σ : dS), den mX3_areAlike 42 [l0, l1, l2] (.int y :: .int x :: st) σ = if x = y then den mX3_areAlike 45 [l0, l1, l2] st σ else den mX3_areAlike 64 [l0, l1, l2] st σ) ∧
  (∀ (l1 l2 : Option Value) (x : Nat) (st : List Value) (σ : dS), den mX3_areAlike 45 [some (.ref x), l1, l2] st σ = den mX3_areAlike 46 [some (.ref x), l1, l2] (.ref x :: st) σ) ∧
  (∀ (l0 l1 l2 : Option Value) (q : Nat) (st : List Value) (σ : dS), den mX3_areAlike 46 [l0, l1, l2] (.ref q :: st) σ = (dget σ q 2 3).bind fun v => den mX3_areAlike 49 [l0, l1, l2] (v :: st) σ) ∧
  (∀ (l0 l2 : Option Value) (x : Int32) (st : List Value) (σ : dS), den mX3_areAlike 49 [l0, some (.int x), l2] st σ = den mX3_areAlike 50 [l0, some (.int x), l2] (.int x :: st) σ) ∧
  (∀ (l0 l1 l2 : Option Value) (q : Nat) (i : Int32) (st : List Value) (σ : dS), den mX3_areAlike 50 [l0, l1, l2] (.int i :: .ref q :: st) σ = if q ≤ dN then (dald σ q 0 i).bind (fun v => den mX3_areAlike 51 [l0, l1, l2] (.int v :: st) σ) else none) ∧
  (∀ (l1 l2 : Option Value) (x : Nat) (st : List Value) (σ : dS), den mX3_areAlike 51 [some (.ref x), l1, l2] st σ = den mX3_areAlike 52 [some (.ref x), l1, l2] (.ref x :: st) σ) ∧
  (∀ (l0 l1 l2 : Option Value) (q : Nat) (st : List Value) (σ : dS), den mX3_areAlike 52 [l0, l1, l2] (.ref q :: st) σ = (dget σ q 2 3).bind fun v => den mX3_areAlike 55 [l0, l1, l2] (v :: st) σ) ∧
  (∀ (l0 l1 : Option Value) (x : Int32) (st : List Value) (σ : dS), den mX3_areAlike 55 [l0, l1, some (.int x)] st σ = den mX3_areAlike 56 [l0, l1, some (.int x)] (.int x :: st) σ) ∧
  (∀ (l0 l1 l2 : Option Value) (q : Nat) (i : Int32) (st : List Value) (σ : dS), den mX3_areAlike 56 [l0, l1, l2] (.int i :: .ref q :: st) σ = if q ≤ dN then (dald σ q 0 i).bind (fun v => den mX3_areAlike 57 [l0, l1, l2] (.int v :: st) σ) else none) ∧
  (∀ (l0 l1 l2 : Option Value) (x y : Int32) (st : List Value) (σ : dS), den mX3_areAlike 57 [l0, l1, l2] (.int y :: .int x :: st) σ = if x = y then den mX3_areAlike 60 [l0, l1, l2] st σ else den mX3_areAlike 64 [l0, l1, l2] st σ) ∧
  (∀ (l0 l1 l2 : Option Value) (st : List Value) (σ : dS), den mX3_areAlike 60 [l0, l1, l2] st σ = den mX3_areAlike 61 [l0, l1, l2] (.int (nI 1) :: st) σ) ∧
  (∀ (l0 l1 l2 : Option Value) (st : List Value) (σ : dS), den mX3_areAlike 61 [l0, l1, l2] st σ = den mX3_areAlike 65 [l0, l1, l2] st σ) ∧
  (∀ (l0 l1 l2 : Option Value) (st : List Value) (σ : dS), den mX3_areAlike 64 [l0, l1, l2] st σ = den mX3_areAlike 65 [l0, l1, l2] (.int (nI 0) :: st) σ) ∧
  (∀ (l0 l1 l2 : Option Value) (v : Int32) (σ : dS), den mX3_areAlike 65 [l0, l1, l2] [.int v] σ = if v = 0 ∨ v = 1 then some (some (.int v), σ) else none) :=
  ⟨fun l1 l2 x st σ => dn_aload_n eX3_areAlike dX3_areAlike_0 rfl,
  fun l0 l1 l2 q st σ => dn_getfield (f := (2, 0, 84)) eX3_areAlike dX3_areAlike_1 (by decide +kernel),
  fun l0 l2 x st σ => dn_iload_n eX3_areAlike dX3_areAlike_4 rfl,
  fun l0 l1 l2 q i st σ => dn_iaload eX3_areAlike dX3_areAlike_5,
  fun l1 l2 x st σ => dn_aload_n eX3_areAlike dX3_areAlike_6 rfl,
  fun l0 l1 l2 q st σ => dn_getfield (f := (2, 0, 84)) eX3_areAlike dX3_areAlike_7 (by decide +kernel),
  fun l0 l1 x st σ => dn_iload_n eX3_areAlike dX3_areAlike_10 rfl,
  fun l0 l1 l2 q i st σ => dn_iaload eX3_areAlike dX3_areAlike_11,
  fun l0 l1 l2 x y st σ => dn_icmp_ne eX3_areAlike dX3_areAlike_12 (by decide),
  fun l1 l2 x st σ => dn_aload_n eX3_areAlike dX3_areAlike_15 rfl,
  fun l0 l1 l2 q st σ => dn_getfield (f := (2, 1, 89)) eX3_areAlike dX3_areAlike_16 (by decide +kernel),
  fun l0 l2 x st σ => dn_iload_n eX3_areAlike dX3_areAlike_19 rfl,
  fun l0 l1 l2 q i st σ => dn_iaload eX3_areAlike dX3_areAlike_20,
  fun l1 l2 x st σ => dn_aload_n eX3_areAlike dX3_areAlike_21 rfl,
  fun l0 l1 l2 q st σ => dn_getfield (f := (2, 1, 89)) eX3_areAlike dX3_areAlike_22 (by decide +kernel),
  fun l0 l1 x st σ => dn_iload_n eX3_areAlike dX3_areAlike_25 rfl,
  fun l0 l1 l2 q i st σ => dn_iaload eX3_areAlike dX3_areAlike_26,
  fun l0 l1 l2 x y st σ => dn_icmp_ne eX3_areAlike dX3_areAlike_27 (by decide),
  fun l1 l2 x st σ => dn_aload_n eX3_areAlike dX3_areAlike_30 rfl,
  fun l0 l1 l2 q st σ => dn_getfield (f := (2, 2, 93)) eX3_areAlike dX3_areAlike_31 (by decide +kernel),
  fun l0 l2 x st σ => dn_iload_n eX3_areAlike dX3_areAlike_34 rfl,
  fun l0 l1 l2 q i st σ => dn_iaload eX3_areAlike dX3_areAlike_35,
  fun l1 l2 x st σ => dn_aload_n eX3_areAlike dX3_areAlike_36 rfl,
  fun l0 l1 l2 q st σ => dn_getfield (f := (2, 2, 93)) eX3_areAlike dX3_areAlike_37 (by decide +kernel),
  fun l0 l1 x st σ => dn_iload_n eX3_areAlike dX3_areAlike_40 rfl,
  fun l0 l1 l2 q i st σ => dn_iaload eX3_areAlike dX3_areAlike_41,
  fun l0 l1 l2 x y st σ => dn_icmp_ne eX3_areAlike dX3_areAlike_42 (by decide),
  fun l1 l2 x st σ => dn_aload_n eX3_areAlike dX3_areAlike_45 rfl,
  fun l0 l1 l2 q st σ => dn_getfield (f := (2, 3, 97)) eX3_areAlike dX3_areAlike_46 (by decide +kernel),
  fun l0 l2 x st σ => dn_iload_n eX3_areAlike dX3_areAlike_49 rfl,
  fun l0 l1 l2 q i st σ => dn_iaload eX3_areAlike dX3_areAlike_50,
  fun l1 l2 x st σ => dn_aload_n eX3_areAlike dX3_areAlike_51 rfl,
  fun l0 l1 l2 q st σ => dn_getfield (f := (2, 3, 97)) eX3_areAlike dX3_areAlike_52 (by decide +kernel),
  fun l0 l1 x st σ => dn_iload_n eX3_areAlike dX3_areAlike_55 rfl,
  fun l0 l1 l2 q i st σ => dn_iaload eX3_areAlike dX3_areAlike_56,
  fun l0 l1 l2 x y st σ => dn_icmp_ne eX3_areAlike dX3_areAlike_57 (by decide),
  fun l0 l1 l2 st σ => dn_iconst eX3_areAlike dX3_areAlike_60 kc_iconst_1,
  fun l0 l1 l2 st σ => dn_goto eX3_areAlike dX3_areAlike_61 (by decide),
  fun l0 l1 l2 st σ => dn_iconst eX3_areAlike dX3_areAlike_64 kc_iconst_0,
  fun l0 l1 l2 v σ => dn_zreturn eX3_areAlike dX3_areAlike_65 rfl⟩
theorem CX3_mayMerge (a0 : Nat) (a1 : Int32) (σ : dS) : dcall mX3_mayMerge [.ref a0, .int a1] σ = den mX3_mayMerge 0 [some (.ref a0), some (.int a1), none, none] [] σ := dcall_den (by decide) rfl
theorem rX3_mayMerge_6 (l0 l1 l2 l3 : Option Value) (a0 : Int32) (q : Nat) (σ : dS) : den mX3_mayMerge 6 [l0, l1, l2, l3] [.int a0, .ref q] σ = if disO σ q 2 = true then ((dcall mX3_firstUnder [.ref q, .int a0] σ).bind fun r => den mX3_mayMerge 9 [l0, l1, l2, l3] (r.1.toList ++ []) r.2) else none := by
  by_cases h : disO σ q 2 = true
  · rw [if_pos h]; exact dn_callV (e := (0, 48, 674)) (as := [.int a0]) (rest := []) eX3_mayMerge dX3_mayMerge_6 (by decide +kernel) rfl (by decide +kernel) rfl (dcat_le rfl) (dlen_le rfl) rfl h
  · rw [if_neg h]; exact den_noV (e := (0, 48, 674)) (as := [.int a0]) (rest := []) eX3_mayMerge dX3_mayMerge_6 (by decide +kernel) rfl rfl rfl h
theorem rX3_mayMerge_16 (l0 l1 l2 l3 : Option Value) (a0 : Int32) (q : Nat) (σ : dS) : den mX3_mayMerge 16 [l0, l1, l2, l3] [.int a0, .ref q] σ = if disO σ q 2 = true then ((dcall mX3_firstUnder [.ref q, .int a0] σ).bind fun r => den mX3_mayMerge 19 [l0, l1, l2, l3] (r.1.toList ++ []) r.2) else none := by
  by_cases h : disO σ q 2 = true
  · rw [if_pos h]; exact dn_callV (e := (0, 48, 674)) (as := [.int a0]) (rest := []) eX3_mayMerge dX3_mayMerge_16 (by decide +kernel) rfl (by decide +kernel) rfl (dcat_le rfl) (dlen_le rfl) rfl h
  · rw [if_neg h]; exact den_noV (e := (0, 48, 674)) (as := [.int a0]) (rest := []) eX3_mayMerge dX3_mayMerge_16 (by decide +kernel) rfl rfl rfl h
theorem rX3_mayMerge_45 (l0 l1 l2 l3 : Option Value) (a0 : Int32) (a1 : Int32) (q : Nat) (σ : dS) : den mX3_mayMerge 45 [l0, l1, l2, l3] [.int a1, .int a0, .ref q] σ = if disO σ q 2 = true then ((dcall mX3_areAlike [.ref q, .int a0, .int a1] σ).bind fun r => den mX3_mayMerge 48 [l0, l1, l2, l3] (r.1.toList ++ []) r.2) else none := by
  by_cases h : disO σ q 2 = true
  · rw [if_pos h]; exact dn_callV (e := (0, 49, 678)) (as := [.int a0, .int a1]) (rest := []) eX3_mayMerge dX3_mayMerge_45 (by decide +kernel) rfl (by decide +kernel) rfl (dcat_le rfl) (dlen_le rfl) rfl h
  · rw [if_neg h]; exact den_noV (e := (0, 49, 678)) (as := [.int a0, .int a1]) (rest := []) eX3_mayMerge dX3_mayMerge_45 (by decide +kernel) rfl rfl rfl h
set_option maxRecDepth 20000 in
theorem SX3_mayMerge_0 : (∀ (l1 l2 l3 : Option Value) (x : Nat) (st : List Value) (σ : dS), den mX3_mayMerge 0 [some (.ref x), l1, l2, l3] st σ = den mX3_mayMerge 1 [some (.ref x), l1, l2, l3] (.ref x :: st) σ) ∧
  (∀ (l0 l1 l2 l3 : Option Value) (st : List Value) (σ : dS), den mX3_mayMerge 1 [l0, l1, l2, l3] st σ = den mX3_mayMerge 2 [l0, l1, l2, l3] (.int (nI 2) :: st) σ) ∧
  (∀ (l0 l2 l3 : Option Value) (x : Int32) (st : List Value) (σ : dS), den mX3_mayMerge 2 [l0, some (.int x), l2, l3] st σ = den mX3_mayMerge 3 [l0, some (.int x), l2, l3] (.int x :: st) σ) ∧
  (∀ (l0 l1 l2 l3 : Option Value) (x y : Int32) (st : List Value) (σ : dS), den mX3_mayMerge 3 [l0, l1, l2, l3] (.int y :: .int x :: st) σ = den mX3_mayMerge 4 [l0, l1, l2, l3] (.int (x * y) :: st) σ) ∧
  (∀ (l0 l1 l2 l3 : Option Value) (st : List Value) (σ : dS), den mX3_mayMerge 4 [l0, l1, l2, l3] st σ = den mX3_mayMerge 5 [l0, l1, l2, l3] (.int (nI 1) :: st) σ) ∧
  (∀ (l0 l1 l2 l3 : Option Value) (x y : Int32) (st : List Value) (σ : dS), den mX3_mayMerge 5 [l0, l1, l2, l3] (.int y :: .int x :: st) σ = den mX3_mayMerge 6 [l0, l1, l2, l3] (.int (x + y) :: st) σ) ∧
  (∀ (l0 l1 l2 l3 : Option Value) (a0 : Int32) (q : Nat) (σ : dS), den mX3_mayMerge 6 [l0, l1, l2, l3] [.int a0, .ref q] σ = if disO σ q 2 = true then ((dcall mX3_firstUnder [.ref q, .int a0] σ).bind fun r => den mX3_mayMerge 9 [l0, l1, l2, l3] (r.1.toList ++ []) r.2) else none) ∧
  (∀ (l0 l2 l3 : Option Value) (x : Int32) (y : Int32) (st : List Value) (σ : dS), den mX3_mayMerge 9 [l0, some (.int y), l2, l3] (.int x :: st) σ = den mX3_mayMerge 10 [l0, some (.int y), some (.int x), l3] st σ) ∧
  (∀ (l1 l2 l3 : Option Value) (x : Nat) (st : List Value) (σ : dS), den mX3_mayMerge 10 [some (.ref x), l1, l2, l3] st σ = den mX3_mayMerge 11 [some (.ref x), l1, l2, l3] (.ref x :: st) σ) ∧
  (∀ (l0 l1 l2 l3 : Option Value) (st : List Value) (σ : dS), den mX3_mayMerge 11 [l0, l1, l2, l3] st σ = den mX3_mayMerge 12 [l0, l1, l2, l3] (.int (nI 2) :: st) σ) ∧
  (∀ (l0 l2 l3 : Option Value) (x : Int32) (st : List Value) (σ : dS), den mX3_mayMerge 12 [l0, some (.int x), l2, l3] st σ = den mX3_mayMerge 13 [l0, some (.int x), l2, l3] (.int x :: st) σ) ∧
  (∀ (l0 l1 l2 l3 : Option Value) (x y : Int32) (st : List Value) (σ : dS), den mX3_mayMerge 13 [l0, l1, l2, l3] (.int y :: .int x :: st) σ = den mX3_mayMerge 14 [l0, l1, l2, l3] (.int (x * y) :: st) σ) ∧
  (∀ (l0 l1 l2 l3 : Option Value) (st : List Value) (σ : dS), den mX3_mayMerge 14 [l0, l1, l2, l3] st σ = den mX3_mayMerge 15 [l0, l1, l2, l3] (.int (nI 2) :: st) σ) ∧
  (∀ (l0 l1 l2 l3 : Option Value) (x y : Int32) (st : List Value) (σ : dS), den mX3_mayMerge 15 [l0, l1, l2, l3] (.int y :: .int x :: st) σ = den mX3_mayMerge 16 [l0, l1, l2, l3] (.int (x + y) :: st) σ) ∧
  (∀ (l0 l1 l2 l3 : Option Value) (a0 : Int32) (q : Nat) (σ : dS), den mX3_mayMerge 16 [l0, l1, l2, l3] [.int a0, .ref q] σ = if disO σ q 2 = true then ((dcall mX3_firstUnder [.ref q, .int a0] σ).bind fun r => den mX3_mayMerge 19 [l0, l1, l2, l3] (r.1.toList ++ []) r.2) else none) ∧
  (∀ (l0 l1 l3 : Option Value) (x : Int32) (y : Int32) (st : List Value) (σ : dS), den mX3_mayMerge 19 [l0, l1, some (.int y), l3] (.int x :: st) σ = den mX3_mayMerge 20 [l0, l1, some (.int y), some (.int x)] st σ) ∧
  (∀ (l0 l1 l3 : Option Value) (x : Int32) (st : List Value) (σ : dS), den mX3_mayMerge 20 [l0, l1, some (.int x), l3] st σ = den mX3_mayMerge 21 [l0, l1, some (.int x), l3] (.int x :: st) σ) ∧
  (∀ (l0 l1 l2 l3 : Option Value) (st : List Value) (σ : dS), den mX3_mayMerge 21 [l0, l1, l2, l3] st σ = den mX3_mayMerge 23 [l0, l1, l2, l3] (.int ((-4)) :: st) σ) ∧
  (∀ (l0 l1 l2 l3 : Option Value) (x y : Int32) (st : List Value) (σ : dS), den mX3_mayMerge 23 [l0, l1, l2, l3] (.int y :: .int x :: st) σ = if x = y then den mX3_mayMerge 75 [l0, l1, l2, l3] st σ else den mX3_mayMerge 26 [l0, l1, l2, l3] st σ) ∧
  (∀ (l0 l1 l2 : Option Value) (x : Int32) (st : List Value) (σ : dS), den mX3_mayMerge 26 [l0, l1, l2, some (.int x)] st σ = den mX3_mayMerge 27 [l0, l1, l2, some (.int x)] (.int x :: st) σ) ∧
  (∀ (l0 l1 l2 l3 : Option Value) (st : List Value) (σ : dS), den mX3_mayMerge 27 [l0, l1, l2, l3] st σ = den mX3_mayMerge 29 [l0, l1, l2, l3] (.int ((-4)) :: st) σ) ∧
  (∀ (l0 l1 l2 l3 : Option Value) (x y : Int32) (st : List Value) (σ : dS), den mX3_mayMerge 29 [l0, l1, l2, l3] (.int y :: .int x :: st) σ = if x = y then den mX3_mayMerge 75 [l0, l1, l2, l3] st σ else den mX3_mayMerge 32 [l0, l1, l2, l3] st σ) ∧
  (∀ (l1 l2 l3 : Option Value) (x : Nat) (st : List Value) (σ : dS), den mX3_mayMerge 32 [some (.ref x), l1, l2, l3] st σ = den mX3_mayMerge 33 [some (.ref x), l1, l2, l3] (.ref x :: st) σ) ∧
  (∀ (l0 l1 l2 l3 : Option Value) (q : Nat) (st : List Value) (σ : dS), den mX3_mayMerge 33 [l0, l1, l2, l3] (.ref q :: st) σ = (dget σ q 2 0).bind fun v => den mX3_mayMerge 36 [l0, l1, l2, l3] (v :: st) σ) ∧
  (∀ (l0 l1 l3 : Option Value) (x : Int32) (st : List Value) (σ : dS), den mX3_mayMerge 36 [l0, l1, some (.int x), l3] st σ = den mX3_mayMerge 37 [l0, l1, some (.int x), l3] (.int x :: st) σ) ∧
  (∀ (l0 l1 l2 l3 : Option Value) (q : Nat) (i : Int32) (st : List Value) (σ : dS), den mX3_mayMerge 37 [l0, l1, l2, l3] (.int i :: .ref q :: st) σ = if q ≤ dN then (dald σ q 0 i).bind (fun v => den mX3_mayMerge 38 [l0, l1, l2, l3] (.int v :: st) σ) else none) ∧
  (∀ (l0 l1 l2 l3 : Option Value) (st : List Value) (σ : dS), den mX3_mayMerge 38 [l0, l1, l2, l3] st σ = den mX3_mayMerge 39 [l0, l1, l2, l3] (.int (nI 5) :: st) σ) ∧
  (∀ (l0 l1 l2 l3 : Option Value) (x y : Int32) (st : List Value) (σ : dS), den mX3_mayMerge 39 [l0, l1, l2, l3] (.int y :: .int x :: st) σ = if x = y then den mX3_mayMerge 75 [l0, l1, l2, l3] st σ else den mX3_mayMerge 42 [l0, l1, l2, l3] st σ) ∧
  (∀ (l1 l2 l3 : Option Value) (x : Nat) (st : List Value) (σ : dS), den mX3_mayMerge 42 [some (.ref x), l1, l2, l3] st σ = den mX3_mayMerge 43 [some (.ref x), l1, l2, l3] (.ref x :: st) σ) ∧
  (∀ (l0 l1 l3 : Option Value) (x : Int32) (st : List Value) (σ : dS), den mX3_mayMerge 43 [l0, l1, some (.int x), l3] st σ = den mX3_mayMerge 44 [l0, l1, some (.int x), l3] (.int x :: st) σ) ∧
  (∀ (l0 l1 l2 : Option Value) (x : Int32) (st : List Value) (σ : dS), den mX3_mayMerge 44 [l0, l1, l2, some (.int x)] st σ = den mX3_mayMerge 45 [l0, l1, l2, some (.int x)] (.int x :: st) σ) ∧
  (∀ (l0 l1 l2 l3 : Option Value) (a0 : Int32) (a1 : Int32) (q : Nat) (σ : dS), den mX3_mayMerge 45 [l0, l1, l2, l3] [.int a1, .int a0, .ref q] σ = if disO σ q 2 = true then ((dcall mX3_areAlike [.ref q, .int a0, .int a1] σ).bind fun r => den mX3_mayMerge 48 [l0, l1, l2, l3] (r.1.toList ++ []) r.2) else none) ∧
  (∀ (l0 l1 l2 l3 : Option Value) (x : Int32) (st : List Value) (σ : dS), den mX3_mayMerge 48 [l0, l1, l2, l3] (.int x :: st) σ = if x = 0 then den mX3_mayMerge 75 [l0, l1, l2, l3] st σ else den mX3_mayMerge 51 [l0, l1, l2, l3] st σ) ∧
  (∀ (l1 l2 l3 : Option Value) (x : Nat) (st : List Value) (σ : dS), den mX3_mayMerge 51 [some (.ref x), l1, l2, l3] st σ = den mX3_mayMerge 52 [some (.ref x), l1, l2, l3] (.ref x :: st) σ) ∧
  (∀ (l0 l1 l2 l3 : Option Value) (q : Nat) (st : List Value) (σ : dS), den mX3_mayMerge 52 [l0, l1, l2, l3] (.ref q :: st) σ = (dget σ q 2 1).bind fun v => den mX3_mayMerge 55 [l0, l1, l2, l3] (v :: st) σ) ∧
  (∀ (l0 l1 l3 : Option Value) (x : Int32) (st : List Value) (σ : dS), den mX3_mayMerge 55 [l0, l1, some (.int x), l3] st σ = den mX3_mayMerge 56 [l0, l1, some (.int x), l3] (.int x :: st) σ) ∧
  (∀ (l0 l1 l2 l3 : Option Value) (q : Nat) (i : Int32) (st : List Value) (σ : dS), den mX3_mayMerge 56 [l0, l1, l2, l3] (.int i :: .ref q :: st) σ = if q ≤ dN then (dald σ q 0 i).bind (fun v => den mX3_mayMerge 57 [l0, l1, l2, l3] (.int v :: st) σ) else none) ∧
  (∀ (l1 l2 l3 : Option Value) (x : Nat) (st : List Value) (σ : dS), den mX3_mayMerge 57 [some (.ref x), l1, l2, l3] st σ = den mX3_mayMerge 58 [some (.ref x), l1, l2, l3] (.ref x :: st) σ) ∧
  (∀ (l0 l1 l2 l3 : Option Value) (q : Nat) (st : List Value) (σ : dS), den mX3_mayMerge 58 [l0, l1, l2, l3] (.ref q :: st) σ = (dget σ q 2 1).bind fun v => den mX3_mayMerge 61 [l0, l1, l2, l3] (v :: st) σ) ∧
  (∀ (l1 l2 l3 : Option Value) (x : Nat) (st : List Value) (σ : dS), den mX3_mayMerge 61 [some (.ref x), l1, l2, l3] st σ = den mX3_mayMerge 62 [some (.ref x), l1, l2, l3] (.ref x :: st) σ) :=
  ⟨fun l1 l2 l3 x st σ => dn_aload_n eX3_mayMerge dX3_mayMerge_0 rfl,
  fun l0 l1 l2 l3 st σ => dn_iconst eX3_mayMerge dX3_mayMerge_1 kc_iconst_2,
  fun l0 l2 l3 x st σ => dn_iload_n eX3_mayMerge dX3_mayMerge_2 rfl,
  fun l0 l1 l2 l3 x y st σ => dn_imul eX3_mayMerge dX3_mayMerge_3,
  fun l0 l1 l2 l3 st σ => dn_iconst eX3_mayMerge dX3_mayMerge_4 kc_iconst_1,
  fun l0 l1 l2 l3 x y st σ => dn_iadd eX3_mayMerge dX3_mayMerge_5,
  fun l0 l1 l2 l3 a0 q σ => rX3_mayMerge_6 l0 l1 l2 l3 a0 q σ,
  fun l0 l2 l3 x y st σ => dn_istore_n eX3_mayMerge dX3_mayMerge_9 rfl,
  fun l1 l2 l3 x st σ => dn_aload_n eX3_mayMerge dX3_mayMerge_10 rfl,
  fun l0 l1 l2 l3 st σ => dn_iconst eX3_mayMerge dX3_mayMerge_11 kc_iconst_2,
  fun l0 l2 l3 x st σ => dn_iload_n eX3_mayMerge dX3_mayMerge_12 rfl,
  fun l0 l1 l2 l3 x y st σ => dn_imul eX3_mayMerge dX3_mayMerge_13,
  fun l0 l1 l2 l3 st σ => dn_iconst eX3_mayMerge dX3_mayMerge_14 kc_iconst_2,
  fun l0 l1 l2 l3 x y st σ => dn_iadd eX3_mayMerge dX3_mayMerge_15,
  fun l0 l1 l2 l3 a0 q σ => rX3_mayMerge_16 l0 l1 l2 l3 a0 q σ,
  fun l0 l1 l3 x y st σ => dn_istore_n eX3_mayMerge dX3_mayMerge_19 rfl,
  fun l0 l1 l3 x st σ => dn_iload_n eX3_mayMerge dX3_mayMerge_20 rfl,
  fun l0 l1 l2 l3 st σ => dn_bipush eX3_mayMerge dX3_mayMerge_21 kc_bipush_m4,
  fun l0 l1 l2 l3 x y st σ => dn_icmp_eq eX3_mayMerge dX3_mayMerge_23 (by decide),
  fun l0 l1 l2 x st σ => dn_iload_n eX3_mayMerge dX3_mayMerge_26 rfl,
  fun l0 l1 l2 l3 st σ => dn_bipush eX3_mayMerge dX3_mayMerge_27 kc_bipush_m4,
  fun l0 l1 l2 l3 x y st σ => dn_icmp_eq eX3_mayMerge dX3_mayMerge_29 (by decide),
  fun l1 l2 l3 x st σ => dn_aload_n eX3_mayMerge dX3_mayMerge_32 rfl,
  fun l0 l1 l2 l3 q st σ => dn_getfield (f := (2, 0, 84)) eX3_mayMerge dX3_mayMerge_33 (by decide +kernel),
  fun l0 l1 l3 x st σ => dn_iload_n eX3_mayMerge dX3_mayMerge_36 rfl,
  fun l0 l1 l2 l3 q i st σ => dn_iaload eX3_mayMerge dX3_mayMerge_37,
  fun l0 l1 l2 l3 st σ => dn_iconst eX3_mayMerge dX3_mayMerge_38 kc_iconst_5,
  fun l0 l1 l2 l3 x y st σ => dn_icmp_eq eX3_mayMerge dX3_mayMerge_39 (by decide),
  fun l1 l2 l3 x st σ => dn_aload_n eX3_mayMerge dX3_mayMerge_42 rfl,
  fun l0 l1 l3 x st σ => dn_iload_n eX3_mayMerge dX3_mayMerge_43 rfl,
  fun l0 l1 l2 x st σ => dn_iload_n eX3_mayMerge dX3_mayMerge_44 rfl,
  fun l0 l1 l2 l3 a0 a1 q σ => rX3_mayMerge_45 l0 l1 l2 l3 a0 a1 q σ,
  fun l0 l1 l2 l3 x st σ => dn_if_eq eX3_mayMerge dX3_mayMerge_48 (by decide),
  fun l1 l2 l3 x st σ => dn_aload_n eX3_mayMerge dX3_mayMerge_51 rfl,
  fun l0 l1 l2 l3 q st σ => dn_getfield (f := (2, 1, 89)) eX3_mayMerge dX3_mayMerge_52 (by decide +kernel),
  fun l0 l1 l3 x st σ => dn_iload_n eX3_mayMerge dX3_mayMerge_55 rfl,
  fun l0 l1 l2 l3 q i st σ => dn_iaload eX3_mayMerge dX3_mayMerge_56,
  fun l1 l2 l3 x st σ => dn_aload_n eX3_mayMerge dX3_mayMerge_57 rfl,
  fun l0 l1 l2 l3 q st σ => dn_getfield (f := (2, 1, 89)) eX3_mayMerge dX3_mayMerge_58 (by decide +kernel),
  fun l1 l2 l3 x st σ => dn_aload_n eX3_mayMerge dX3_mayMerge_61 rfl⟩
set_option maxRecDepth 20000 in
theorem SX3_mayMerge_1 : (∀ (l0 l1 l2 l3 : Option Value) (q : Nat) (st : List Value) (σ : dS), den mX3_mayMerge 62 [l0, l1, l2, l3] (.ref q :: st) σ = (dget σ q 2 5).bind fun v => den mX3_mayMerge 65 [l0, l1, l2, l3] (v :: st) σ) ∧
  (∀ (l0 l2 l3 : Option Value) (x : Int32) (st : List Value) (σ : dS), den mX3_mayMerge 65 [l0, some (.int x), l2, l3] st σ = den mX3_mayMerge 66 [l0, some (.int x), l2, l3] (.int x :: st) σ) ∧
  (∀ (l0 l1 l2 l3 : Option Value) (q : Nat) (i : Int32) (st : List Value) (σ : dS), den mX3_mayMerge 66 [l0, l1, l2, l3] (.int i :: .ref q :: st) σ = if q ≤ dN then (dald σ q 0 i).bind (fun v => den mX3_mayMerge 67 [l0, l1, l2, l3] (.int v :: st) σ) else none) ∧
  (∀ (l0 l1 l2 l3 : Option Value) (q : Nat) (i : Int32) (st : List Value) (σ : dS), den mX3_mayMerge 67 [l0, l1, l2, l3] (.int i :: .ref q :: st) σ = if q ≤ dN then (dald σ q 0 i).bind (fun v => den mX3_mayMerge 68 [l0, l1, l2, l3] (.int v :: st) σ) else none) ∧
  (∀ (l0 l1 l2 l3 : Option Value) (x y : Int32) (st : List Value) (σ : dS), den mX3_mayMerge 68 [l0, l1, l2, l3] (.int y :: .int x :: st) σ = if x = y then den mX3_mayMerge 75 [l0, l1, l2, l3] st σ else den mX3_mayMerge 71 [l0, l1, l2, l3] st σ) ∧
  (∀ (l0 l1 l2 l3 : Option Value) (st : List Value) (σ : dS), den mX3_mayMerge 71 [l0, l1, l2, l3] st σ = den mX3_mayMerge 72 [l0, l1, l2, l3] (.int (nI 1) :: st) σ) ∧
  (∀ (l0 l1 l2 l3 : Option Value) (st : List Value) (σ : dS), den mX3_mayMerge 72 [l0, l1, l2, l3] st σ = den mX3_mayMerge 76 [l0, l1, l2, l3] st σ) ∧
  (∀ (l0 l1 l2 l3 : Option Value) (st : List Value) (σ : dS), den mX3_mayMerge 75 [l0, l1, l2, l3] st σ = den mX3_mayMerge 76 [l0, l1, l2, l3] (.int (nI 0) :: st) σ) ∧
  (∀ (l0 l1 l2 l3 : Option Value) (v : Int32) (σ : dS), den mX3_mayMerge 76 [l0, l1, l2, l3] [.int v] σ = if v = 0 ∨ v = 1 then some (some (.int v), σ) else none) :=
  ⟨fun l0 l1 l2 l3 q st σ => dn_getfield (f := (2, 5, 105)) eX3_mayMerge dX3_mayMerge_62 (by decide +kernel),
  fun l0 l2 l3 x st σ => dn_iload_n eX3_mayMerge dX3_mayMerge_65 rfl,
  fun l0 l1 l2 l3 q i st σ => dn_iaload eX3_mayMerge dX3_mayMerge_66,
  fun l0 l1 l2 l3 q i st σ => dn_iaload eX3_mayMerge dX3_mayMerge_67,
  fun l0 l1 l2 l3 x y st σ => dn_icmp_eq eX3_mayMerge dX3_mayMerge_68 (by decide),
  fun l0 l1 l2 l3 st σ => dn_iconst eX3_mayMerge dX3_mayMerge_71 kc_iconst_1,
  fun l0 l1 l2 l3 st σ => dn_goto eX3_mayMerge dX3_mayMerge_72 (by decide),
  fun l0 l1 l2 l3 st σ => dn_iconst eX3_mayMerge dX3_mayMerge_75 kc_iconst_0,
  fun l0 l1 l2 l3 v σ => dn_zreturn eX3_mayMerge dX3_mayMerge_76 rfl⟩
theorem CX3_firstToMerge (a0 : Nat) (σ : dS) : dcall mX3_firstToMerge [.ref a0] σ = den mX3_firstToMerge 0 [some (.ref a0), none] [] σ := dcall_den (by decide) rfl
theorem hX3_firstToMerge_2 (l0 : Option Value) (x : Int32) (st : List Value) (σ : dS) : den mX3_firstToMerge 2 [l0, some (.int x)] st σ = den mX3_firstToMerge 3 [l0, some (.int x)] (.int x :: st) σ := dn_iload_n eX3_firstToMerge dX3_firstToMerge_2 rfl
theorem rX3_firstToMerge_12 (l0 l1 : Option Value) (a0 : Int32) (q : Nat) (σ : dS) : den mX3_firstToMerge 12 [l0, l1] [.int a0, .ref q] σ = if disO σ q 2 = true then ((dcall mX3_mayMerge [.ref q, .int a0] σ).bind fun r => den mX3_firstToMerge 15 [l0, l1] (r.1.toList ++ []) r.2) else none := by
  by_cases h : disO σ q 2 = true
  · rw [if_pos h]; exact dn_callV (e := (0, 50, 670)) (as := [.int a0]) (rest := []) eX3_firstToMerge dX3_firstToMerge_12 (by decide +kernel) rfl (by decide +kernel) rfl (dcat_le rfl) (dlen_le rfl) rfl h
  · rw [if_neg h]; exact den_noV (e := (0, 50, 670)) (as := [.int a0]) (rest := []) eX3_firstToMerge dX3_firstToMerge_12 (by decide +kernel) rfl rfl rfl h
set_option maxRecDepth 20000 in
theorem SX3_firstToMerge : (∀ (l0 l1 : Option Value) (st : List Value) (σ : dS), den mX3_firstToMerge 0 [l0, l1] st σ = den mX3_firstToMerge 1 [l0, l1] (.int (nI 0) :: st) σ) ∧
  (∀ (l1 : Option Value) (x : Int32) (y : Nat) (st : List Value) (σ : dS), den mX3_firstToMerge 1 [some (.ref y), l1] (.int x :: st) σ = den mX3_firstToMerge 2 [some (.ref y), some (.int x)] st σ) ∧
  (∀ (l1 : Option Value) (x : Nat) (st : List Value) (σ : dS), den mX3_firstToMerge 3 [some (.ref x), l1] st σ = den mX3_firstToMerge 4 [some (.ref x), l1] (.ref x :: st) σ) ∧
  (∀ (l0 l1 : Option Value) (q : Nat) (st : List Value) (σ : dS), den mX3_firstToMerge 4 [l0, l1] (.ref q :: st) σ = (dget σ q 2 8).bind fun v => den mX3_firstToMerge 7 [l0, l1] (v :: st) σ) ∧
  (∀ (l0 l1 : Option Value) (x y : Int32) (st : List Value) (σ : dS), den mX3_firstToMerge 7 [l0, l1] (.int y :: .int x :: st) σ = if x < y then den mX3_firstToMerge 10 [l0, l1] st σ else den mX3_firstToMerge 26 [l0, l1] st σ) ∧
  (∀ (l1 : Option Value) (x : Nat) (st : List Value) (σ : dS), den mX3_firstToMerge 10 [some (.ref x), l1] st σ = den mX3_firstToMerge 11 [some (.ref x), l1] (.ref x :: st) σ) ∧
  (∀ (l0 : Option Value) (x : Int32) (st : List Value) (σ : dS), den mX3_firstToMerge 11 [l0, some (.int x)] st σ = den mX3_firstToMerge 12 [l0, some (.int x)] (.int x :: st) σ) ∧
  (∀ (l0 l1 : Option Value) (a0 : Int32) (q : Nat) (σ : dS), den mX3_firstToMerge 12 [l0, l1] [.int a0, .ref q] σ = if disO σ q 2 = true then ((dcall mX3_mayMerge [.ref q, .int a0] σ).bind fun r => den mX3_firstToMerge 15 [l0, l1] (r.1.toList ++ []) r.2) else none) ∧
  (∀ (l0 l1 : Option Value) (x : Int32) (st : List Value) (σ : dS), den mX3_firstToMerge 15 [l0, l1] (.int x :: st) σ = if x = 0 then den mX3_firstToMerge 20 [l0, l1] st σ else den mX3_firstToMerge 18 [l0, l1] st σ) ∧
  (∀ (l0 : Option Value) (x : Int32) (st : List Value) (σ : dS), den mX3_firstToMerge 18 [l0, some (.int x)] st σ = den mX3_firstToMerge 19 [l0, some (.int x)] (.int x :: st) σ) ∧
  (∀ (l0 l1 : Option Value) (v : Int32) (σ : dS), den mX3_firstToMerge 19 [l0, l1] [.int v] σ = some (some (.int v), σ)) ∧
  (∀ (x : Int32) (y : Nat) (st : List Value) (σ : dS), den mX3_firstToMerge 20 [some (.ref y), some (.int x)] st σ = den mX3_firstToMerge 23 [some (.ref y), some (.int (x + nI 1))] st σ) ∧
  (∀ (l0 l1 : Option Value) (st : List Value) (σ : dS), den mX3_firstToMerge 23 [l0, l1] st σ = den mX3_firstToMerge 2 [l0, l1] st σ) ∧
  (∀ (l0 l1 : Option Value) (st : List Value) (σ : dS), den mX3_firstToMerge 26 [l0, l1] st σ = den mX3_firstToMerge 28 [l0, l1] (.int ((-4)) :: st) σ) ∧
  (∀ (l0 l1 : Option Value) (v : Int32) (σ : dS), den mX3_firstToMerge 28 [l0, l1] [.int v] σ = some (some (.int v), σ)) :=
  ⟨fun l0 l1 st σ => dn_iconst eX3_firstToMerge dX3_firstToMerge_0 kc_iconst_0,
  fun l1 x y st σ => dn_istore_n eX3_firstToMerge dX3_firstToMerge_1 rfl,
  fun l1 x st σ => dn_aload_n eX3_firstToMerge dX3_firstToMerge_3 rfl,
  fun l0 l1 q st σ => dn_getfield (f := (2, 8, 115)) eX3_firstToMerge dX3_firstToMerge_4 (by decide +kernel),
  fun l0 l1 x y st σ => dn_icmp_ge eX3_firstToMerge dX3_firstToMerge_7 (by decide),
  fun l1 x st σ => dn_aload_n eX3_firstToMerge dX3_firstToMerge_10 rfl,
  fun l0 x st σ => dn_iload_n eX3_firstToMerge dX3_firstToMerge_11 rfl,
  fun l0 l1 a0 q σ => rX3_firstToMerge_12 l0 l1 a0 q σ,
  fun l0 l1 x st σ => dn_if_eq eX3_firstToMerge dX3_firstToMerge_15 (by decide),
  fun l0 x st σ => dn_iload_n eX3_firstToMerge dX3_firstToMerge_18 rfl,
  fun l0 l1 v σ => dn_ireturn eX3_firstToMerge dX3_firstToMerge_19 rfl,
  fun x y st σ => dn_iinc (v := nI 1) eX3_firstToMerge dX3_firstToMerge_20 rfl kc_iconst_1 rfl,
  fun l0 l1 st σ => dn_goto eX3_firstToMerge dX3_firstToMerge_23 (by decide),
  fun l0 l1 st σ => dn_bipush eX3_firstToMerge dX3_firstToMerge_26 kc_bipush_m4,
  fun l0 l1 v σ => dn_ireturn eX3_firstToMerge dX3_firstToMerge_28 rfl⟩
theorem CX3_mergeAhead (a0 : Nat) (a1 : Int32) (σ : dS) : dcall mX3_mergeAhead [.ref a0, .int a1] σ = den mX3_mergeAhead 0 [some (.ref a0), some (.int a1), none, none, none, none, none, none, none, none] [] σ := dcall_den (by decide) rfl
theorem rX3_mergeAhead_13 (l0 l1 l2 l3 l4 l5 l6 l7 l8 l9 : Option Value) (a0 : Int32) (q : Nat) (σ : dS) : den mX3_mergeAhead 13 [l0, l1, l2, l3, l4, l5, l6, l7, l8, l9] [.int a0, .ref q] σ = if disO σ q 2 = true then ((dcall mX3_firstUnder [.ref q, .int a0] σ).bind fun r => den mX3_mergeAhead 16 [l0, l1, l2, l3, l4, l5, l6, l7, l8, l9] (r.1.toList ++ []) r.2) else none := by
  by_cases h : disO σ q 2 = true
  · rw [if_pos h]; exact dn_callV (e := (0, 48, 674)) (as := [.int a0]) (rest := []) eX3_mergeAhead dX3_mergeAhead_13 (by decide +kernel) rfl (by decide +kernel) rfl (dcat_le rfl) (dlen_le rfl) rfl h
  · rw [if_neg h]; exact den_noV (e := (0, 48, 674)) (as := [.int a0]) (rest := []) eX3_mergeAhead dX3_mergeAhead_13 (by decide +kernel) rfl rfl rfl h
theorem rX3_mergeAhead_23 (l0 l1 l2 l3 l4 l5 l6 l7 l8 l9 : Option Value) (a0 : Int32) (q : Nat) (σ : dS) : den mX3_mergeAhead 23 [l0, l1, l2, l3, l4, l5, l6, l7, l8, l9] [.int a0, .ref q] σ = if disO σ q 2 = true then ((dcall mX3_firstUnder [.ref q, .int a0] σ).bind fun r => den mX3_mergeAhead 26 [l0, l1, l2, l3, l4, l5, l6, l7, l8, l9] (r.1.toList ++ []) r.2) else none := by
  by_cases h : disO σ q 2 = true
  · rw [if_pos h]; exact dn_callV (e := (0, 48, 674)) (as := [.int a0]) (rest := []) eX3_mergeAhead dX3_mergeAhead_23 (by decide +kernel) rfl (by decide +kernel) rfl (dcat_le rfl) (dlen_le rfl) rfl h
  · rw [if_neg h]; exact den_noV (e := (0, 48, 674)) (as := [.int a0]) (rest := []) eX3_mergeAhead dX3_mergeAhead_23 (by decide +kernel) rfl rfl rfl h
theorem hX3_mergeAhead_66 (l0 l1 l2 l3 l4 l5 l6 l7 l8 : Option Value) (x : Int32) (st : List Value) (σ : dS) : den mX3_mergeAhead 66 [l0, l1, l2, l3, l4, l5, l6, l7, l8, some (.int x)] st σ = den mX3_mergeAhead 68 [l0, l1, l2, l3, l4, l5, l6, l7, l8, some (.int x)] (.int x :: st) σ := dn_iload eX3_mergeAhead dX3_mergeAhead_66 rfl
theorem rX3_mergeAhead_82 (l0 l1 l2 l3 l4 l5 l6 l7 l8 l9 : Option Value) (a0 : Int32) (a1 : Int32) (q : Nat) (σ : dS) : den mX3_mergeAhead 82 [l0, l1, l2, l3, l4, l5, l6, l7, l8, l9] [.int a1, .int a0, .ref q] σ = if disO σ q 2 = true then ((dcall mX3_move [.ref q, .int a0, .int a1] σ).bind fun r => den mX3_mergeAhead 85 [l0, l1, l2, l3, l4, l5, l6, l7, l8, l9] (r.1.toList ++ []) r.2) else none := by
  by_cases h : disO σ q 2 = true
  · rw [if_pos h]; exact dn_callV (e := (0, 46, 654)) (as := [.int a0, .int a1]) (rest := []) eX3_mergeAhead dX3_mergeAhead_82 (by decide +kernel) rfl (by decide +kernel) rfl (dcat_le rfl) (dlen_le rfl) rfl h
  · rw [if_neg h]; exact den_noV (e := (0, 46, 654)) (as := [.int a0, .int a1]) (rest := []) eX3_mergeAhead dX3_mergeAhead_82 (by decide +kernel) rfl rfl rfl h
theorem hX3_mergeAhead_104 (l0 l1 l2 l3 l4 l5 l6 l7 l8 : Option Value) (x : Int32) (st : List Value) (σ : dS) : den mX3_mergeAhead 104 [l0, l1, l2, l3, l4, l5, l6, l7, l8, some (.int x)] st σ = den mX3_mergeAhead 106 [l0, l1, l2, l3, l4, l5, l6, l7, l8, some (.int x)] (.int x :: st) σ := dn_iload eX3_mergeAhead dX3_mergeAhead_104 rfl
theorem rX3_mergeAhead_117 (l0 l1 l2 l3 l4 l5 l6 l7 l8 l9 : Option Value) (a0 : Int32) (a1 : Int32) (q : Nat) (σ : dS) : den mX3_mergeAhead 117 [l0, l1, l2, l3, l4, l5, l6, l7, l8, l9] [.int a1, .int a0, .ref q] σ = if disO σ q 2 = true then ((dcall mX3_move [.ref q, .int a0, .int a1] σ).bind fun r => den mX3_mergeAhead 120 [l0, l1, l2, l3, l4, l5, l6, l7, l8, l9] (r.1.toList ++ []) r.2) else none := by
  by_cases h : disO σ q 2 = true
  · rw [if_pos h]; exact dn_callV (e := (0, 46, 654)) (as := [.int a0, .int a1]) (rest := []) eX3_mergeAhead dX3_mergeAhead_117 (by decide +kernel) rfl (by decide +kernel) rfl (dcat_le rfl) (dlen_le rfl) rfl h
  · rw [if_neg h]; exact den_noV (e := (0, 46, 654)) (as := [.int a0, .int a1]) (rest := []) eX3_mergeAhead dX3_mergeAhead_117 (by decide +kernel) rfl rfl rfl h
theorem rX3_mergeAhead_159 (l0 l1 l2 l3 l4 l5 l6 l7 l8 l9 : Option Value) (q : Nat) (σ : dS) : den mX3_mergeAhead 159 [l0, l1, l2, l3, l4, l5, l6, l7, l8, l9] [.ref q] σ = if disO σ q 2 = true then ((dcall mX3_findIfs [.ref q] σ).bind fun r => den mX3_mergeAhead 162 [l0, l1, l2, l3, l4, l5, l6, l7, l8, l9] (r.1.toList ++ []) r.2) else none := by
  by_cases h : disO σ q 2 = true
  · rw [if_pos h]; exact dn_callV (e := (0, 45, 658)) (as := []) (rest := []) eX3_mergeAhead dX3_mergeAhead_159 (by decide +kernel) rfl (by decide +kernel) rfl (dcat_le rfl) (dlen_le rfl) rfl h
  · rw [if_neg h]; exact den_noV (e := (0, 45, 658)) (as := []) (rest := []) eX3_mergeAhead dX3_mergeAhead_159 (by decide +kernel) rfl rfl rfl h
set_option maxRecDepth 20000 in
theorem SX3_mergeAhead_0 : (∀ (l1 l2 l3 l4 l5 l6 l7 l8 l9 : Option Value) (x : Nat) (st : List Value) (σ : dS), den mX3_mergeAhead 0 [some (.ref x), l1, l2, l3, l4, l5, l6, l7, l8, l9] st σ = den mX3_mergeAhead 1 [some (.ref x), l1, l2, l3, l4, l5, l6, l7, l8, l9] (.ref x :: st) σ) ∧
  (∀ (l0 l1 l2 l3 l4 l5 l6 l7 l8 l9 : Option Value) (q : Nat) (st : List Value) (σ : dS), den mX3_mergeAhead 1 [l0, l1, l2, l3, l4, l5, l6, l7, l8, l9] (.ref q :: st) σ = (dget σ q 2 5).bind fun v => den mX3_mergeAhead 4 [l0, l1, l2, l3, l4, l5, l6, l7, l8, l9] (v :: st) σ) ∧
  (∀ (l0 l2 l3 l4 l5 l6 l7 l8 l9 : Option Value) (x : Int32) (st : List Value) (σ : dS), den mX3_mergeAhead 4 [l0, some (.int x), l2, l3, l4, l5, l6, l7, l8, l9] st σ = den mX3_mergeAhead 5 [l0, some (.int x), l2, l3, l4, l5, l6, l7, l8, l9] (.int x :: st) σ) ∧
  (∀ (l0 l1 l2 l3 l4 l5 l6 l7 l8 l9 : Option Value) (q : Nat) (i : Int32) (st : List Value) (σ : dS), den mX3_mergeAhead 5 [l0, l1, l2, l3, l4, l5, l6, l7, l8, l9] (.int i :: .ref q :: st) σ = if q ≤ dN then (dald σ q 0 i).bind (fun v => den mX3_mergeAhead 6 [l0, l1, l2, l3, l4, l5, l6, l7, l8, l9] (.int v :: st) σ) else none) ∧
  (∀ (l0 l2 l3 l4 l5 l6 l7 l8 l9 : Option Value) (x : Int32) (y : Int32) (st : List Value) (σ : dS), den mX3_mergeAhead 6 [l0, some (.int y), l2, l3, l4, l5, l6, l7, l8, l9] (.int x :: st) σ = den mX3_mergeAhead 7 [l0, some (.int y), some (.int x), l3, l4, l5, l6, l7, l8, l9] st σ) ∧
  (∀ (l1 l2 l3 l4 l5 l6 l7 l8 l9 : Option Value) (x : Nat) (st : List Value) (σ : dS), den mX3_mergeAhead 7 [some (.ref x), l1, l2, l3, l4, l5, l6, l7, l8, l9] st σ = den mX3_mergeAhead 8 [some (.ref x), l1, l2, l3, l4, l5, l6, l7, l8, l9] (.ref x :: st) σ) ∧
  (∀ (l0 l1 l2 l3 l4 l5 l6 l7 l8 l9 : Option Value) (st : List Value) (σ : dS), den mX3_mergeAhead 8 [l0, l1, l2, l3, l4, l5, l6, l7, l8, l9] st σ = den mX3_mergeAhead 9 [l0, l1, l2, l3, l4, l5, l6, l7, l8, l9] (.int (nI 2) :: st) σ) ∧
  (∀ (l0 l2 l3 l4 l5 l6 l7 l8 l9 : Option Value) (x : Int32) (st : List Value) (σ : dS), den mX3_mergeAhead 9 [l0, some (.int x), l2, l3, l4, l5, l6, l7, l8, l9] st σ = den mX3_mergeAhead 10 [l0, some (.int x), l2, l3, l4, l5, l6, l7, l8, l9] (.int x :: st) σ) ∧
  (∀ (l0 l1 l2 l3 l4 l5 l6 l7 l8 l9 : Option Value) (x y : Int32) (st : List Value) (σ : dS), den mX3_mergeAhead 10 [l0, l1, l2, l3, l4, l5, l6, l7, l8, l9] (.int y :: .int x :: st) σ = den mX3_mergeAhead 11 [l0, l1, l2, l3, l4, l5, l6, l7, l8, l9] (.int (x * y) :: st) σ) ∧
  (∀ (l0 l1 l2 l3 l4 l5 l6 l7 l8 l9 : Option Value) (st : List Value) (σ : dS), den mX3_mergeAhead 11 [l0, l1, l2, l3, l4, l5, l6, l7, l8, l9] st σ = den mX3_mergeAhead 12 [l0, l1, l2, l3, l4, l5, l6, l7, l8, l9] (.int (nI 1) :: st) σ) ∧
  (∀ (l0 l1 l2 l3 l4 l5 l6 l7 l8 l9 : Option Value) (x y : Int32) (st : List Value) (σ : dS), den mX3_mergeAhead 12 [l0, l1, l2, l3, l4, l5, l6, l7, l8, l9] (.int y :: .int x :: st) σ = den mX3_mergeAhead 13 [l0, l1, l2, l3, l4, l5, l6, l7, l8, l9] (.int (x + y) :: st) σ) ∧
  (∀ (l0 l1 l2 l3 l4 l5 l6 l7 l8 l9 : Option Value) (a0 : Int32) (q : Nat) (σ : dS), den mX3_mergeAhead 13 [l0, l1, l2, l3, l4, l5, l6, l7, l8, l9] [.int a0, .ref q] σ = if disO σ q 2 = true then ((dcall mX3_firstUnder [.ref q, .int a0] σ).bind fun r => den mX3_mergeAhead 16 [l0, l1, l2, l3, l4, l5, l6, l7, l8, l9] (r.1.toList ++ []) r.2) else none) ∧
  (∀ (l0 l1 l3 l4 l5 l6 l7 l8 l9 : Option Value) (x : Int32) (y : Int32) (st : List Value) (σ : dS), den mX3_mergeAhead 16 [l0, l1, some (.int y), l3, l4, l5, l6, l7, l8, l9] (.int x :: st) σ = den mX3_mergeAhead 17 [l0, l1, some (.int y), some (.int x), l4, l5, l6, l7, l8, l9] st σ) ∧
  (∀ (l1 l2 l3 l4 l5 l6 l7 l8 l9 : Option Value) (x : Nat) (st : List Value) (σ : dS), den mX3_mergeAhead 17 [some (.ref x), l1, l2, l3, l4, l5, l6, l7, l8, l9] st σ = den mX3_mergeAhead 18 [some (.ref x), l1, l2, l3, l4, l5, l6, l7, l8, l9] (.ref x :: st) σ) ∧
  (∀ (l0 l1 l2 l3 l4 l5 l6 l7 l8 l9 : Option Value) (st : List Value) (σ : dS), den mX3_mergeAhead 18 [l0, l1, l2, l3, l4, l5, l6, l7, l8, l9] st σ = den mX3_mergeAhead 19 [l0, l1, l2, l3, l4, l5, l6, l7, l8, l9] (.int (nI 2) :: st) σ) ∧
  (∀ (l0 l2 l3 l4 l5 l6 l7 l8 l9 : Option Value) (x : Int32) (st : List Value) (σ : dS), den mX3_mergeAhead 19 [l0, some (.int x), l2, l3, l4, l5, l6, l7, l8, l9] st σ = den mX3_mergeAhead 20 [l0, some (.int x), l2, l3, l4, l5, l6, l7, l8, l9] (.int x :: st) σ) ∧
  (∀ (l0 l1 l2 l3 l4 l5 l6 l7 l8 l9 : Option Value) (x y : Int32) (st : List Value) (σ : dS), den mX3_mergeAhead 20 [l0, l1, l2, l3, l4, l5, l6, l7, l8, l9] (.int y :: .int x :: st) σ = den mX3_mergeAhead 21 [l0, l1, l2, l3, l4, l5, l6, l7, l8, l9] (.int (x * y) :: st) σ) ∧
  (∀ (l0 l1 l2 l3 l4 l5 l6 l7 l8 l9 : Option Value) (st : List Value) (σ : dS), den mX3_mergeAhead 21 [l0, l1, l2, l3, l4, l5, l6, l7, l8, l9] st σ = den mX3_mergeAhead 22 [l0, l1, l2, l3, l4, l5, l6, l7, l8, l9] (.int (nI 2) :: st) σ) ∧
  (∀ (l0 l1 l2 l3 l4 l5 l6 l7 l8 l9 : Option Value) (x y : Int32) (st : List Value) (σ : dS), den mX3_mergeAhead 22 [l0, l1, l2, l3, l4, l5, l6, l7, l8, l9] (.int y :: .int x :: st) σ = den mX3_mergeAhead 23 [l0, l1, l2, l3, l4, l5, l6, l7, l8, l9] (.int (x + y) :: st) σ) ∧
  (∀ (l0 l1 l2 l3 l4 l5 l6 l7 l8 l9 : Option Value) (a0 : Int32) (q : Nat) (σ : dS), den mX3_mergeAhead 23 [l0, l1, l2, l3, l4, l5, l6, l7, l8, l9] [.int a0, .ref q] σ = if disO σ q 2 = true then ((dcall mX3_firstUnder [.ref q, .int a0] σ).bind fun r => den mX3_mergeAhead 26 [l0, l1, l2, l3, l4, l5, l6, l7, l8, l9] (r.1.toList ++ []) r.2) else none) ∧
  (∀ (l0 l1 l2 l4 l5 l6 l7 l8 l9 : Option Value) (x : Int32) (y : Int32) (st : List Value) (σ : dS), den mX3_mergeAhead 26 [l0, l1, l2, some (.int y), l4, l5, l6, l7, l8, l9] (.int x :: st) σ = den mX3_mergeAhead 28 [l0, l1, l2, some (.int y), some (.int x), l5, l6, l7, l8, l9] st σ) ∧
  (∀ (l1 l2 l3 l4 l5 l6 l7 l8 l9 : Option Value) (x : Nat) (st : List Value) (σ : dS), den mX3_mergeAhead 28 [some (.ref x), l1, l2, l3, l4, l5, l6, l7, l8, l9] st σ = den mX3_mergeAhead 29 [some (.ref x), l1, l2, l3, l4, l5, l6, l7, l8, l9] (.ref x :: st) σ) ∧
  (∀ (l0 l1 l2 l3 l4 l5 l6 l7 l8 l9 : Option Value) (q : Nat) (st : List Value) (σ : dS), den mX3_mergeAhead 29 [l0, l1, l2, l3, l4, l5, l6, l7, l8, l9] (.ref q :: st) σ = (dget σ q 2 0).bind fun v => den mX3_mergeAhead 32 [l0, l1, l2, l3, l4, l5, l6, l7, l8, l9] (v :: st) σ) ∧
  (∀ (l0 l1 l2 l4 l5 l6 l7 l8 l9 : Option Value) (x : Int32) (st : List Value) (σ : dS), den mX3_mergeAhead 32 [l0, l1, l2, some (.int x), l4, l5, l6, l7, l8, l9] st σ = den mX3_mergeAhead 33 [l0, l1, l2, some (.int x), l4, l5, l6, l7, l8, l9] (.int x :: st) σ) ∧
  (∀ (l0 l1 l2 l3 l4 l5 l6 l7 l8 l9 : Option Value) (q : Nat) (i : Int32) (st : List Value) (σ : dS), den mX3_mergeAhead 33 [l0, l1, l2, l3, l4, l5, l6, l7, l8, l9] (.int i :: .ref q :: st) σ = if q ≤ dN then (dald σ q 0 i).bind (fun v => den mX3_mergeAhead 34 [l0, l1, l2, l3, l4, l5, l6, l7, l8, l9] (.int v :: st) σ) else none) ∧
  (∀ (l0 l1 l2 l3 l5 l6 l7 l8 l9 : Option Value) (x : Int32) (y : Int32) (st : List Value) (σ : dS), den mX3_mergeAhead 34 [l0, l1, l2, l3, some (.int y), l5, l6, l7, l8, l9] (.int x :: st) σ = den mX3_mergeAhead 36 [l0, l1, l2, l3, some (.int y), some (.int x), l6, l7, l8, l9] st σ) ∧
  (∀ (l1 l2 l3 l4 l5 l6 l7 l8 l9 : Option Value) (x : Nat) (st : List Value) (σ : dS), den mX3_mergeAhead 36 [some (.ref x), l1, l2, l3, l4, l5, l6, l7, l8, l9] st σ = den mX3_mergeAhead 37 [some (.ref x), l1, l2, l3, l4, l5, l6, l7, l8, l9] (.ref x :: st) σ) ∧
  (∀ (l0 l1 l2 l3 l4 l5 l6 l7 l8 l9 : Option Value) (q : Nat) (st : List Value) (σ : dS), den mX3_mergeAhead 37 [l0, l1, l2, l3, l4, l5, l6, l7, l8, l9] (.ref q :: st) σ = (dget σ q 2 1).bind fun v => den mX3_mergeAhead 40 [l0, l1, l2, l3, l4, l5, l6, l7, l8, l9] (v :: st) σ) ∧
  (∀ (l0 l1 l2 l4 l5 l6 l7 l8 l9 : Option Value) (x : Int32) (st : List Value) (σ : dS), den mX3_mergeAhead 40 [l0, l1, l2, some (.int x), l4, l5, l6, l7, l8, l9] st σ = den mX3_mergeAhead 41 [l0, l1, l2, some (.int x), l4, l5, l6, l7, l8, l9] (.int x :: st) σ) ∧
  (∀ (l0 l1 l2 l3 l4 l5 l6 l7 l8 l9 : Option Value) (q : Nat) (i : Int32) (st : List Value) (σ : dS), den mX3_mergeAhead 41 [l0, l1, l2, l3, l4, l5, l6, l7, l8, l9] (.int i :: .ref q :: st) σ = if q ≤ dN then (dald σ q 0 i).bind (fun v => den mX3_mergeAhead 42 [l0, l1, l2, l3, l4, l5, l6, l7, l8, l9] (.int v :: st) σ) else none) ∧
  (∀ (l0 l1 l2 l3 l4 l6 l7 l8 l9 : Option Value) (x : Int32) (y : Int32) (st : List Value) (σ : dS), den mX3_mergeAhead 42 [l0, l1, l2, l3, l4, some (.int y), l6, l7, l8, l9] (.int x :: st) σ = den mX3_mergeAhead 44 [l0, l1, l2, l3, l4, some (.int y), some (.int x), l7, l8, l9] st σ) ∧
  (∀ (l1 l2 l3 l4 l5 l6 l7 l8 l9 : Option Value) (x : Nat) (st : List Value) (σ : dS), den mX3_mergeAhead 44 [some (.ref x), l1, l2, l3, l4, l5, l6, l7, l8, l9] st σ = den mX3_mergeAhead 45 [some (.ref x), l1, l2, l3, l4, l5, l6, l7, l8, l9] (.ref x :: st) σ) ∧
  (∀ (l0 l1 l2 l3 l4 l5 l6 l7 l8 l9 : Option Value) (q : Nat) (st : List Value) (σ : dS), den mX3_mergeAhead 45 [l0, l1, l2, l3, l4, l5, l6, l7, l8, l9] (.ref q :: st) σ = (dget σ q 2 2).bind fun v => den mX3_mergeAhead 48 [l0, l1, l2, l3, l4, l5, l6, l7, l8, l9] (v :: st) σ) ∧
  (∀ (l0 l1 l2 l4 l5 l6 l7 l8 l9 : Option Value) (x : Int32) (st : List Value) (σ : dS), den mX3_mergeAhead 48 [l0, l1, l2, some (.int x), l4, l5, l6, l7, l8, l9] st σ = den mX3_mergeAhead 49 [l0, l1, l2, some (.int x), l4, l5, l6, l7, l8, l9] (.int x :: st) σ) ∧
  (∀ (l0 l1 l2 l3 l4 l5 l6 l7 l8 l9 : Option Value) (q : Nat) (i : Int32) (st : List Value) (σ : dS), den mX3_mergeAhead 49 [l0, l1, l2, l3, l4, l5, l6, l7, l8, l9] (.int i :: .ref q :: st) σ = if q ≤ dN then (dald σ q 0 i).bind (fun v => den mX3_mergeAhead 50 [l0, l1, l2, l3, l4, l5, l6, l7, l8, l9] (.int v :: st) σ) else none) ∧
  (∀ (l0 l1 l2 l3 l4 l5 l7 l8 l9 : Option Value) (x : Int32) (y : Int32) (st : List Value) (σ : dS), den mX3_mergeAhead 50 [l0, l1, l2, l3, l4, l5, some (.int y), l7, l8, l9] (.int x :: st) σ = den mX3_mergeAhead 52 [l0, l1, l2, l3, l4, l5, some (.int y), some (.int x), l8, l9] st σ) ∧
  (∀ (l1 l2 l3 l4 l5 l6 l7 l8 l9 : Option Value) (x : Nat) (st : List Value) (σ : dS), den mX3_mergeAhead 52 [some (.ref x), l1, l2, l3, l4, l5, l6, l7, l8, l9] st σ = den mX3_mergeAhead 53 [some (.ref x), l1, l2, l3, l4, l5, l6, l7, l8, l9] (.ref x :: st) σ) ∧
  (∀ (l0 l1 l2 l3 l4 l5 l6 l7 l8 l9 : Option Value) (q : Nat) (st : List Value) (σ : dS), den mX3_mergeAhead 53 [l0, l1, l2, l3, l4, l5, l6, l7, l8, l9] (.ref q :: st) σ = (dget σ q 2 3).bind fun v => den mX3_mergeAhead 56 [l0, l1, l2, l3, l4, l5, l6, l7, l8, l9] (v :: st) σ) ∧
  (∀ (l0 l1 l2 l4 l5 l6 l7 l8 l9 : Option Value) (x : Int32) (st : List Value) (σ : dS), den mX3_mergeAhead 56 [l0, l1, l2, some (.int x), l4, l5, l6, l7, l8, l9] st σ = den mX3_mergeAhead 57 [l0, l1, l2, some (.int x), l4, l5, l6, l7, l8, l9] (.int x :: st) σ) ∧
  (∀ (l0 l1 l2 l3 l4 l5 l6 l7 l8 l9 : Option Value) (q : Nat) (i : Int32) (st : List Value) (σ : dS), den mX3_mergeAhead 57 [l0, l1, l2, l3, l4, l5, l6, l7, l8, l9] (.int i :: .ref q :: st) σ = if q ≤ dN then (dald σ q 0 i).bind (fun v => den mX3_mergeAhead 58 [l0, l1, l2, l3, l4, l5, l6, l7, l8, l9] (.int v :: st) σ) else none) :=
  ⟨fun l1 l2 l3 l4 l5 l6 l7 l8 l9 x st σ => dn_aload_n eX3_mergeAhead dX3_mergeAhead_0 rfl,
  fun l0 l1 l2 l3 l4 l5 l6 l7 l8 l9 q st σ => dn_getfield (f := (2, 5, 105)) eX3_mergeAhead dX3_mergeAhead_1 (by decide +kernel),
  fun l0 l2 l3 l4 l5 l6 l7 l8 l9 x st σ => dn_iload_n eX3_mergeAhead dX3_mergeAhead_4 rfl,
  fun l0 l1 l2 l3 l4 l5 l6 l7 l8 l9 q i st σ => dn_iaload eX3_mergeAhead dX3_mergeAhead_5,
  fun l0 l2 l3 l4 l5 l6 l7 l8 l9 x y st σ => dn_istore_n eX3_mergeAhead dX3_mergeAhead_6 rfl,
  fun l1 l2 l3 l4 l5 l6 l7 l8 l9 x st σ => dn_aload_n eX3_mergeAhead dX3_mergeAhead_7 rfl,
  fun l0 l1 l2 l3 l4 l5 l6 l7 l8 l9 st σ => dn_iconst eX3_mergeAhead dX3_mergeAhead_8 kc_iconst_2,
  fun l0 l2 l3 l4 l5 l6 l7 l8 l9 x st σ => dn_iload_n eX3_mergeAhead dX3_mergeAhead_9 rfl,
  fun l0 l1 l2 l3 l4 l5 l6 l7 l8 l9 x y st σ => dn_imul eX3_mergeAhead dX3_mergeAhead_10,
  fun l0 l1 l2 l3 l4 l5 l6 l7 l8 l9 st σ => dn_iconst eX3_mergeAhead dX3_mergeAhead_11 kc_iconst_1,
  fun l0 l1 l2 l3 l4 l5 l6 l7 l8 l9 x y st σ => dn_iadd eX3_mergeAhead dX3_mergeAhead_12,
  fun l0 l1 l2 l3 l4 l5 l6 l7 l8 l9 a0 q σ => rX3_mergeAhead_13 l0 l1 l2 l3 l4 l5 l6 l7 l8 l9 a0 q σ,
  fun l0 l1 l3 l4 l5 l6 l7 l8 l9 x y st σ => dn_istore_n eX3_mergeAhead dX3_mergeAhead_16 rfl,
  fun l1 l2 l3 l4 l5 l6 l7 l8 l9 x st σ => dn_aload_n eX3_mergeAhead dX3_mergeAhead_17 rfl,
  fun l0 l1 l2 l3 l4 l5 l6 l7 l8 l9 st σ => dn_iconst eX3_mergeAhead dX3_mergeAhead_18 kc_iconst_2,
  fun l0 l2 l3 l4 l5 l6 l7 l8 l9 x st σ => dn_iload_n eX3_mergeAhead dX3_mergeAhead_19 rfl,
  fun l0 l1 l2 l3 l4 l5 l6 l7 l8 l9 x y st σ => dn_imul eX3_mergeAhead dX3_mergeAhead_20,
  fun l0 l1 l2 l3 l4 l5 l6 l7 l8 l9 st σ => dn_iconst eX3_mergeAhead dX3_mergeAhead_21 kc_iconst_2,
  fun l0 l1 l2 l3 l4 l5 l6 l7 l8 l9 x y st σ => dn_iadd eX3_mergeAhead dX3_mergeAhead_22,
  fun l0 l1 l2 l3 l4 l5 l6 l7 l8 l9 a0 q σ => rX3_mergeAhead_23 l0 l1 l2 l3 l4 l5 l6 l7 l8 l9 a0 q σ,
  fun l0 l1 l2 l4 l5 l6 l7 l8 l9 x y st σ => dn_istore eX3_mergeAhead dX3_mergeAhead_26 rfl,
  fun l1 l2 l3 l4 l5 l6 l7 l8 l9 x st σ => dn_aload_n eX3_mergeAhead dX3_mergeAhead_28 rfl,
  fun l0 l1 l2 l3 l4 l5 l6 l7 l8 l9 q st σ => dn_getfield (f := (2, 0, 84)) eX3_mergeAhead dX3_mergeAhead_29 (by decide +kernel),
  fun l0 l1 l2 l4 l5 l6 l7 l8 l9 x st σ => dn_iload_n eX3_mergeAhead dX3_mergeAhead_32 rfl,
  fun l0 l1 l2 l3 l4 l5 l6 l7 l8 l9 q i st σ => dn_iaload eX3_mergeAhead dX3_mergeAhead_33,
  fun l0 l1 l2 l3 l5 l6 l7 l8 l9 x y st σ => dn_istore eX3_mergeAhead dX3_mergeAhead_34 rfl,
  fun l1 l2 l3 l4 l5 l6 l7 l8 l9 x st σ => dn_aload_n eX3_mergeAhead dX3_mergeAhead_36 rfl,
  fun l0 l1 l2 l3 l4 l5 l6 l7 l8 l9 q st σ => dn_getfield (f := (2, 1, 89)) eX3_mergeAhead dX3_mergeAhead_37 (by decide +kernel),
  fun l0 l1 l2 l4 l5 l6 l7 l8 l9 x st σ => dn_iload_n eX3_mergeAhead dX3_mergeAhead_40 rfl,
  fun l0 l1 l2 l3 l4 l5 l6 l7 l8 l9 q i st σ => dn_iaload eX3_mergeAhead dX3_mergeAhead_41,
  fun l0 l1 l2 l3 l4 l6 l7 l8 l9 x y st σ => dn_istore eX3_mergeAhead dX3_mergeAhead_42 rfl,
  fun l1 l2 l3 l4 l5 l6 l7 l8 l9 x st σ => dn_aload_n eX3_mergeAhead dX3_mergeAhead_44 rfl,
  fun l0 l1 l2 l3 l4 l5 l6 l7 l8 l9 q st σ => dn_getfield (f := (2, 2, 93)) eX3_mergeAhead dX3_mergeAhead_45 (by decide +kernel),
  fun l0 l1 l2 l4 l5 l6 l7 l8 l9 x st σ => dn_iload_n eX3_mergeAhead dX3_mergeAhead_48 rfl,
  fun l0 l1 l2 l3 l4 l5 l6 l7 l8 l9 q i st σ => dn_iaload eX3_mergeAhead dX3_mergeAhead_49,
  fun l0 l1 l2 l3 l4 l5 l7 l8 l9 x y st σ => dn_istore eX3_mergeAhead dX3_mergeAhead_50 rfl,
  fun l1 l2 l3 l4 l5 l6 l7 l8 l9 x st σ => dn_aload_n eX3_mergeAhead dX3_mergeAhead_52 rfl,
  fun l0 l1 l2 l3 l4 l5 l6 l7 l8 l9 q st σ => dn_getfield (f := (2, 3, 97)) eX3_mergeAhead dX3_mergeAhead_53 (by decide +kernel),
  fun l0 l1 l2 l4 l5 l6 l7 l8 l9 x st σ => dn_iload_n eX3_mergeAhead dX3_mergeAhead_56 rfl,
  fun l0 l1 l2 l3 l4 l5 l6 l7 l8 l9 q i st σ => dn_iaload eX3_mergeAhead dX3_mergeAhead_57⟩
set_option maxRecDepth 20000 in
theorem SX3_mergeAhead_1 : (∀ (l0 l1 l2 l3 l4 l5 l6 l8 l9 : Option Value) (x : Int32) (y : Int32) (st : List Value) (σ : dS), den mX3_mergeAhead 58 [l0, l1, l2, l3, l4, l5, l6, some (.int y), l8, l9] (.int x :: st) σ = den mX3_mergeAhead 60 [l0, l1, l2, l3, l4, l5, l6, some (.int y), some (.int x), l9] st σ) ∧
  (∀ (l0 l1 l2 l3 l5 l6 l7 l8 l9 : Option Value) (x : Int32) (st : List Value) (σ : dS), den mX3_mergeAhead 60 [l0, l1, l2, l3, some (.int x), l5, l6, l7, l8, l9] st σ = den mX3_mergeAhead 62 [l0, l1, l2, l3, some (.int x), l5, l6, l7, l8, l9] (.int x :: st) σ) ∧
  (∀ (l0 l1 l2 l3 l4 l5 l6 l7 l8 l9 : Option Value) (st : List Value) (σ : dS), den mX3_mergeAhead 62 [l0, l1, l2, l3, l4, l5, l6, l7, l8, l9] st σ = den mX3_mergeAhead 63 [l0, l1, l2, l3, l4, l5, l6, l7, l8, l9] (.int (nI 1) :: st) σ) ∧
  (∀ (l0 l1 l2 l3 l4 l5 l6 l7 l8 l9 : Option Value) (x y : Int32) (st : List Value) (σ : dS), den mX3_mergeAhead 63 [l0, l1, l2, l3, l4, l5, l6, l7, l8, l9] (.int y :: .int x :: st) σ = den mX3_mergeAhead 64 [l0, l1, l2, l3, l4, l5, l6, l7, l8, l9] (.int (x + y) :: st) σ) ∧
  (∀ (l0 l1 l2 l3 l4 l5 l6 l7 l9 : Option Value) (x : Int32) (y : Int32) (st : List Value) (σ : dS), den mX3_mergeAhead 64 [l0, l1, l2, l3, l4, l5, l6, l7, some (.int y), l9] (.int x :: st) σ = den mX3_mergeAhead 66 [l0, l1, l2, l3, l4, l5, l6, l7, some (.int y), some (.int x)] st σ) ∧
  (∀ (l1 l2 l3 l4 l5 l6 l7 l8 l9 : Option Value) (x : Nat) (st : List Value) (σ : dS), den mX3_mergeAhead 68 [some (.ref x), l1, l2, l3, l4, l5, l6, l7, l8, l9] st σ = den mX3_mergeAhead 69 [some (.ref x), l1, l2, l3, l4, l5, l6, l7, l8, l9] (.ref x :: st) σ) ∧
  (∀ (l0 l1 l2 l3 l4 l5 l6 l7 l8 l9 : Option Value) (q : Nat) (st : List Value) (σ : dS), den mX3_mergeAhead 69 [l0, l1, l2, l3, l4, l5, l6, l7, l8, l9] (.ref q :: st) σ = (dget σ q 2 7).bind fun v => den mX3_mergeAhead 72 [l0, l1, l2, l3, l4, l5, l6, l7, l8, l9] (v :: st) σ) ∧
  (∀ (l0 l1 l2 l3 l4 l5 l6 l7 l8 l9 : Option Value) (x y : Int32) (st : List Value) (σ : dS), den mX3_mergeAhead 72 [l0, l1, l2, l3, l4, l5, l6, l7, l8, l9] (.int y :: .int x :: st) σ = if x < y then den mX3_mergeAhead 75 [l0, l1, l2, l3, l4, l5, l6, l7, l8, l9] st σ else den mX3_mergeAhead 91 [l0, l1, l2, l3, l4, l5, l6, l7, l8, l9] st σ) ∧
  (∀ (l1 l2 l3 l4 l5 l6 l7 l8 l9 : Option Value) (x : Nat) (st : List Value) (σ : dS), den mX3_mergeAhead 75 [some (.ref x), l1, l2, l3, l4, l5, l6, l7, l8, l9] st σ = den mX3_mergeAhead 76 [some (.ref x), l1, l2, l3, l4, l5, l6, l7, l8, l9] (.ref x :: st) σ) ∧
  (∀ (l0 l1 l2 l3 l4 l5 l6 l7 l8 : Option Value) (x : Int32) (st : List Value) (σ : dS), den mX3_mergeAhead 76 [l0, l1, l2, l3, l4, l5, l6, l7, l8, some (.int x)] st σ = den mX3_mergeAhead 78 [l0, l1, l2, l3, l4, l5, l6, l7, l8, some (.int x)] (.int x :: st) σ) ∧
  (∀ (l0 l1 l2 l3 l4 l5 l6 l7 l8 : Option Value) (x : Int32) (st : List Value) (σ : dS), den mX3_mergeAhead 78 [l0, l1, l2, l3, l4, l5, l6, l7, l8, some (.int x)] st σ = den mX3_mergeAhead 80 [l0, l1, l2, l3, l4, l5, l6, l7, l8, some (.int x)] (.int x :: st) σ) ∧
  (∀ (l0 l1 l2 l3 l4 l5 l6 l7 l8 l9 : Option Value) (st : List Value) (σ : dS), den mX3_mergeAhead 80 [l0, l1, l2, l3, l4, l5, l6, l7, l8, l9] st σ = den mX3_mergeAhead 81 [l0, l1, l2, l3, l4, l5, l6, l7, l8, l9] (.int (nI 1) :: st) σ) ∧
  (∀ (l0 l1 l2 l3 l4 l5 l6 l7 l8 l9 : Option Value) (x y : Int32) (st : List Value) (σ : dS), den mX3_mergeAhead 81 [l0, l1, l2, l3, l4, l5, l6, l7, l8, l9] (.int y :: .int x :: st) σ = den mX3_mergeAhead 82 [l0, l1, l2, l3, l4, l5, l6, l7, l8, l9] (.int (x - y) :: st) σ) ∧
  (∀ (l0 l1 l2 l3 l4 l5 l6 l7 l8 l9 : Option Value) (a0 : Int32) (a1 : Int32) (q : Nat) (σ : dS), den mX3_mergeAhead 82 [l0, l1, l2, l3, l4, l5, l6, l7, l8, l9] [.int a1, .int a0, .ref q] σ = if disO σ q 2 = true then ((dcall mX3_move [.ref q, .int a0, .int a1] σ).bind fun r => den mX3_mergeAhead 85 [l0, l1, l2, l3, l4, l5, l6, l7, l8, l9] (r.1.toList ++ []) r.2) else none) ∧
  (∀ (l0 l1 l2 l3 l4 l5 l6 l7 : Option Value) (x : Int32) (y : Int32) (st : List Value) (σ : dS), den mX3_mergeAhead 85 [l0, l1, l2, l3, l4, l5, l6, l7, some (.int y), some (.int x)] st σ = den mX3_mergeAhead 88 [l0, l1, l2, l3, l4, l5, l6, l7, some (.int y), some (.int (x + nI 1))] st σ) ∧
  (∀ (l0 l1 l2 l3 l4 l5 l6 l7 l8 l9 : Option Value) (st : List Value) (σ : dS), den mX3_mergeAhead 88 [l0, l1, l2, l3, l4, l5, l6, l7, l8, l9] st σ = den mX3_mergeAhead 66 [l0, l1, l2, l3, l4, l5, l6, l7, l8, l9] st σ) ∧
  (∀ (l1 l2 l3 l4 l5 l6 l7 l8 l9 : Option Value) (x : Nat) (st : List Value) (σ : dS), den mX3_mergeAhead 91 [some (.ref x), l1, l2, l3, l4, l5, l6, l7, l8, l9] st σ = den mX3_mergeAhead 92 [some (.ref x), l1, l2, l3, l4, l5, l6, l7, l8, l9] (.ref x :: st) σ) ∧
  (∀ (l0 l1 l2 l3 l4 l5 l6 l7 l8 l9 : Option Value) (x : Nat) (st : List Value) (σ : dS), den mX3_mergeAhead 92 [l0, l1, l2, l3, l4, l5, l6, l7, l8, l9] (.ref x :: st) σ = den mX3_mergeAhead 93 [l0, l1, l2, l3, l4, l5, l6, l7, l8, l9] (.ref x :: .ref x :: st) σ) ∧
  (∀ (l0 l1 l2 l3 l4 l5 l6 l7 l8 l9 : Option Value) (q : Nat) (st : List Value) (σ : dS), den mX3_mergeAhead 93 [l0, l1, l2, l3, l4, l5, l6, l7, l8, l9] (.ref q :: st) σ = (dget σ q 2 7).bind fun v => den mX3_mergeAhead 96 [l0, l1, l2, l3, l4, l5, l6, l7, l8, l9] (v :: st) σ) ∧
  (∀ (l0 l1 l2 l3 l4 l5 l6 l7 l8 l9 : Option Value) (st : List Value) (σ : dS), den mX3_mergeAhead 96 [l0, l1, l2, l3, l4, l5, l6, l7, l8, l9] st σ = den mX3_mergeAhead 97 [l0, l1, l2, l3, l4, l5, l6, l7, l8, l9] (.int (nI 1) :: st) σ) ∧
  (∀ (l0 l1 l2 l3 l4 l5 l6 l7 l8 l9 : Option Value) (x y : Int32) (st : List Value) (σ : dS), den mX3_mergeAhead 97 [l0, l1, l2, l3, l4, l5, l6, l7, l8, l9] (.int y :: .int x :: st) σ = den mX3_mergeAhead 98 [l0, l1, l2, l3, l4, l5, l6, l7, l8, l9] (.int (x - y) :: st) σ) ∧
  (∀ (l0 l1 l2 l3 l4 l5 l6 l7 l8 l9 : Option Value) (x : Int32) (q : Nat) (st : List Value) (σ : dS), den mX3_mergeAhead 98 [l0, l1, l2, l3, l4, l5, l6, l7, l8, l9] (.int x :: .ref q :: st) σ = (dput σ q 2 7 (.int x)).bind fun τ => den mX3_mergeAhead 101 [l0, l1, l2, l3, l4, l5, l6, l7, l8, l9] st τ) ∧
  (∀ (l0 l1 l2 l4 l5 l6 l7 l8 l9 : Option Value) (x : Int32) (st : List Value) (σ : dS), den mX3_mergeAhead 101 [l0, l1, l2, some (.int x), l4, l5, l6, l7, l8, l9] st σ = den mX3_mergeAhead 102 [l0, l1, l2, some (.int x), l4, l5, l6, l7, l8, l9] (.int x :: st) σ) ∧
  (∀ (l0 l1 l2 l3 l4 l5 l6 l7 l9 : Option Value) (x : Int32) (y : Int32) (st : List Value) (σ : dS), den mX3_mergeAhead 102 [l0, l1, l2, l3, l4, l5, l6, l7, some (.int y), l9] (.int x :: st) σ = den mX3_mergeAhead 104 [l0, l1, l2, l3, l4, l5, l6, l7, some (.int y), some (.int x)] st σ) ∧
  (∀ (l0 l1 l3 l4 l5 l6 l7 l8 l9 : Option Value) (x : Int32) (st : List Value) (σ : dS), den mX3_mergeAhead 106 [l0, l1, some (.int x), l3, l4, l5, l6, l7, l8, l9] st σ = den mX3_mergeAhead 107 [l0, l1, some (.int x), l3, l4, l5, l6, l7, l8, l9] (.int x :: st) σ) ∧
  (∀ (l0 l1 l2 l3 l4 l5 l6 l7 l8 l9 : Option Value) (x y : Int32) (st : List Value) (σ : dS), den mX3_mergeAhead 107 [l0, l1, l2, l3, l4, l5, l6, l7, l8, l9] (.int y :: .int x :: st) σ = if y < x then den mX3_mergeAhead 110 [l0, l1, l2, l3, l4, l5, l6, l7, l8, l9] st σ else den mX3_mergeAhead 126 [l0, l1, l2, l3, l4, l5, l6, l7, l8, l9] st σ) ∧
  (∀ (l1 l2 l3 l4 l5 l6 l7 l8 l9 : Option Value) (x : Nat) (st : List Value) (σ : dS), den mX3_mergeAhead 110 [some (.ref x), l1, l2, l3, l4, l5, l6, l7, l8, l9] st σ = den mX3_mergeAhead 111 [some (.ref x), l1, l2, l3, l4, l5, l6, l7, l8, l9] (.ref x :: st) σ) ∧
  (∀ (l0 l1 l2 l3 l4 l5 l6 l7 l8 : Option Value) (x : Int32) (st : List Value) (σ : dS), den mX3_mergeAhead 111 [l0, l1, l2, l3, l4, l5, l6, l7, l8, some (.int x)] st σ = den mX3_mergeAhead 113 [l0, l1, l2, l3, l4, l5, l6, l7, l8, some (.int x)] (.int x :: st) σ) ∧
  (∀ (l0 l1 l2 l3 l4 l5 l6 l7 l8 l9 : Option Value) (st : List Value) (σ : dS), den mX3_mergeAhead 113 [l0, l1, l2, l3, l4, l5, l6, l7, l8, l9] st σ = den mX3_mergeAhead 114 [l0, l1, l2, l3, l4, l5, l6, l7, l8, l9] (.int (nI 1) :: st) σ) ∧
  (∀ (l0 l1 l2 l3 l4 l5 l6 l7 l8 l9 : Option Value) (x y : Int32) (st : List Value) (σ : dS), den mX3_mergeAhead 114 [l0, l1, l2, l3, l4, l5, l6, l7, l8, l9] (.int y :: .int x :: st) σ = den mX3_mergeAhead 115 [l0, l1, l2, l3, l4, l5, l6, l7, l8, l9] (.int (x - y) :: st) σ) ∧
  (∀ (l0 l1 l2 l3 l4 l5 l6 l7 l8 : Option Value) (x : Int32) (st : List Value) (σ : dS), den mX3_mergeAhead 115 [l0, l1, l2, l3, l4, l5, l6, l7, l8, some (.int x)] st σ = den mX3_mergeAhead 117 [l0, l1, l2, l3, l4, l5, l6, l7, l8, some (.int x)] (.int x :: st) σ) ∧
  (∀ (l0 l1 l2 l3 l4 l5 l6 l7 l8 l9 : Option Value) (a0 : Int32) (a1 : Int32) (q : Nat) (σ : dS), den mX3_mergeAhead 117 [l0, l1, l2, l3, l4, l5, l6, l7, l8, l9] [.int a1, .int a0, .ref q] σ = if disO σ q 2 = true then ((dcall mX3_move [.ref q, .int a0, .int a1] σ).bind fun r => den mX3_mergeAhead 120 [l0, l1, l2, l3, l4, l5, l6, l7, l8, l9] (r.1.toList ++ []) r.2) else none) ∧
  (∀ (l0 l1 l2 l3 l4 l5 l6 l7 : Option Value) (x : Int32) (y : Int32) (st : List Value) (σ : dS), den mX3_mergeAhead 120 [l0, l1, l2, l3, l4, l5, l6, l7, some (.int y), some (.int x)] st σ = den mX3_mergeAhead 123 [l0, l1, l2, l3, l4, l5, l6, l7, some (.int y), some (.int (x + (-1)))] st σ) ∧
  (∀ (l0 l1 l2 l3 l4 l5 l6 l7 l8 l9 : Option Value) (st : List Value) (σ : dS), den mX3_mergeAhead 123 [l0, l1, l2, l3, l4, l5, l6, l7, l8, l9] st σ = den mX3_mergeAhead 104 [l0, l1, l2, l3, l4, l5, l6, l7, l8, l9] st σ) ∧
  (∀ (l1 l2 l3 l4 l5 l6 l7 l8 l9 : Option Value) (x : Nat) (st : List Value) (σ : dS), den mX3_mergeAhead 126 [some (.ref x), l1, l2, l3, l4, l5, l6, l7, l8, l9] st σ = den mX3_mergeAhead 127 [some (.ref x), l1, l2, l3, l4, l5, l6, l7, l8, l9] (.ref x :: st) σ) ∧
  (∀ (l0 l1 l2 l3 l4 l5 l6 l7 l8 l9 : Option Value) (q : Nat) (st : List Value) (σ : dS), den mX3_mergeAhead 127 [l0, l1, l2, l3, l4, l5, l6, l7, l8, l9] (.ref q :: st) σ = (dget σ q 2 0).bind fun v => den mX3_mergeAhead 130 [l0, l1, l2, l3, l4, l5, l6, l7, l8, l9] (v :: st) σ) ∧
  (∀ (l0 l1 l3 l4 l5 l6 l7 l8 l9 : Option Value) (x : Int32) (st : List Value) (σ : dS), den mX3_mergeAhead 130 [l0, l1, some (.int x), l3, l4, l5, l6, l7, l8, l9] st σ = den mX3_mergeAhead 131 [l0, l1, some (.int x), l3, l4, l5, l6, l7, l8, l9] (.int x :: st) σ) ∧
  (∀ (l0 l1 l2 l3 l4 l6 l7 l8 l9 : Option Value) (x : Int32) (st : List Value) (σ : dS), den mX3_mergeAhead 131 [l0, l1, l2, l3, l4, some (.int x), l6, l7, l8, l9] st σ = den mX3_mergeAhead 133 [l0, l1, l2, l3, l4, some (.int x), l6, l7, l8, l9] (.int x :: st) σ) ∧
  (∀ (l0 l1 l2 l3 l4 l5 l6 l7 l8 l9 : Option Value) (q : Nat) (i x : Int32) (st : List Value) (σ : dS), den mX3_mergeAhead 133 [l0, l1, l2, l3, l4, l5, l6, l7, l8, l9] (.int x :: .int i :: .ref q :: st) σ = (dast σ q 0 i x).bind fun τ => den mX3_mergeAhead 134 [l0, l1, l2, l3, l4, l5, l6, l7, l8, l9] st τ) ∧
  (∀ (l1 l2 l3 l4 l5 l6 l7 l8 l9 : Option Value) (x : Nat) (st : List Value) (σ : dS), den mX3_mergeAhead 134 [some (.ref x), l1, l2, l3, l4, l5, l6, l7, l8, l9] st σ = den mX3_mergeAhead 135 [some (.ref x), l1, l2, l3, l4, l5, l6, l7, l8, l9] (.ref x :: st) σ) :=
  ⟨fun l0 l1 l2 l3 l4 l5 l6 l8 l9 x y st σ => dn_istore eX3_mergeAhead dX3_mergeAhead_58 rfl,
  fun l0 l1 l2 l3 l5 l6 l7 l8 l9 x st σ => dn_iload eX3_mergeAhead dX3_mergeAhead_60 rfl,
  fun l0 l1 l2 l3 l4 l5 l6 l7 l8 l9 st σ => dn_iconst eX3_mergeAhead dX3_mergeAhead_62 kc_iconst_1,
  fun l0 l1 l2 l3 l4 l5 l6 l7 l8 l9 x y st σ => dn_iadd eX3_mergeAhead dX3_mergeAhead_63,
  fun l0 l1 l2 l3 l4 l5 l6 l7 l9 x y st σ => dn_istore eX3_mergeAhead dX3_mergeAhead_64 rfl,
  fun l1 l2 l3 l4 l5 l6 l7 l8 l9 x st σ => dn_aload_n eX3_mergeAhead dX3_mergeAhead_68 rfl,
  fun l0 l1 l2 l3 l4 l5 l6 l7 l8 l9 q st σ => dn_getfield (f := (2, 7, 109)) eX3_mergeAhead dX3_mergeAhead_69 (by decide +kernel),
  fun l0 l1 l2 l3 l4 l5 l6 l7 l8 l9 x y st σ => dn_icmp_ge eX3_mergeAhead dX3_mergeAhead_72 (by decide),
  fun l1 l2 l3 l4 l5 l6 l7 l8 l9 x st σ => dn_aload_n eX3_mergeAhead dX3_mergeAhead_75 rfl,
  fun l0 l1 l2 l3 l4 l5 l6 l7 l8 x st σ => dn_iload eX3_mergeAhead dX3_mergeAhead_76 rfl,
  fun l0 l1 l2 l3 l4 l5 l6 l7 l8 x st σ => dn_iload eX3_mergeAhead dX3_mergeAhead_78 rfl,
  fun l0 l1 l2 l3 l4 l5 l6 l7 l8 l9 st σ => dn_iconst eX3_mergeAhead dX3_mergeAhead_80 kc_iconst_1,
  fun l0 l1 l2 l3 l4 l5 l6 l7 l8 l9 x y st σ => dn_isub eX3_mergeAhead dX3_mergeAhead_81,
  fun l0 l1 l2 l3 l4 l5 l6 l7 l8 l9 a0 a1 q σ => rX3_mergeAhead_82 l0 l1 l2 l3 l4 l5 l6 l7 l8 l9 a0 a1 q σ,
  fun l0 l1 l2 l3 l4 l5 l6 l7 x y st σ => dn_iinc (v := nI 1) eX3_mergeAhead dX3_mergeAhead_85 rfl kc_iconst_1 rfl,
  fun l0 l1 l2 l3 l4 l5 l6 l7 l8 l9 st σ => dn_goto eX3_mergeAhead dX3_mergeAhead_88 (by decide),
  fun l1 l2 l3 l4 l5 l6 l7 l8 l9 x st σ => dn_aload_n eX3_mergeAhead dX3_mergeAhead_91 rfl,
  fun l0 l1 l2 l3 l4 l5 l6 l7 l8 l9 x st σ => dn_dup eX3_mergeAhead dX3_mergeAhead_92 rfl,
  fun l0 l1 l2 l3 l4 l5 l6 l7 l8 l9 q st σ => dn_getfield (f := (2, 7, 109)) eX3_mergeAhead dX3_mergeAhead_93 (by decide +kernel),
  fun l0 l1 l2 l3 l4 l5 l6 l7 l8 l9 st σ => dn_iconst eX3_mergeAhead dX3_mergeAhead_96 kc_iconst_1,
  fun l0 l1 l2 l3 l4 l5 l6 l7 l8 l9 x y st σ => dn_isub eX3_mergeAhead dX3_mergeAhead_97,
  fun l0 l1 l2 l3 l4 l5 l6 l7 l8 l9 x q st σ => dn_putfield (f := (2, 7, 109)) (ty := .int) eX3_mergeAhead dX3_mergeAhead_98 (by decide +kernel) (by decide +kernel) rfl,
  fun l0 l1 l2 l4 l5 l6 l7 l8 l9 x st σ => dn_iload_n eX3_mergeAhead dX3_mergeAhead_101 rfl,
  fun l0 l1 l2 l3 l4 l5 l6 l7 l9 x y st σ => dn_istore eX3_mergeAhead dX3_mergeAhead_102 rfl,
  fun l0 l1 l3 l4 l5 l6 l7 l8 l9 x st σ => dn_iload_n eX3_mergeAhead dX3_mergeAhead_106 rfl,
  fun l0 l1 l2 l3 l4 l5 l6 l7 l8 l9 x y st σ => dn_icmp_le eX3_mergeAhead dX3_mergeAhead_107 (by decide),
  fun l1 l2 l3 l4 l5 l6 l7 l8 l9 x st σ => dn_aload_n eX3_mergeAhead dX3_mergeAhead_110 rfl,
  fun l0 l1 l2 l3 l4 l5 l6 l7 l8 x st σ => dn_iload eX3_mergeAhead dX3_mergeAhead_111 rfl,
  fun l0 l1 l2 l3 l4 l5 l6 l7 l8 l9 st σ => dn_iconst eX3_mergeAhead dX3_mergeAhead_113 kc_iconst_1,
  fun l0 l1 l2 l3 l4 l5 l6 l7 l8 l9 x y st σ => dn_isub eX3_mergeAhead dX3_mergeAhead_114,
  fun l0 l1 l2 l3 l4 l5 l6 l7 l8 x st σ => dn_iload eX3_mergeAhead dX3_mergeAhead_115 rfl,
  fun l0 l1 l2 l3 l4 l5 l6 l7 l8 l9 a0 a1 q σ => rX3_mergeAhead_117 l0 l1 l2 l3 l4 l5 l6 l7 l8 l9 a0 a1 q σ,
  fun l0 l1 l2 l3 l4 l5 l6 l7 x y st σ => dn_iinc (v := (-1)) eX3_mergeAhead dX3_mergeAhead_120 rfl kc_iconst_m1 rfl,
  fun l0 l1 l2 l3 l4 l5 l6 l7 l8 l9 st σ => dn_goto eX3_mergeAhead dX3_mergeAhead_123 (by decide),
  fun l1 l2 l3 l4 l5 l6 l7 l8 l9 x st σ => dn_aload_n eX3_mergeAhead dX3_mergeAhead_126 rfl,
  fun l0 l1 l2 l3 l4 l5 l6 l7 l8 l9 q st σ => dn_getfield (f := (2, 0, 84)) eX3_mergeAhead dX3_mergeAhead_127 (by decide +kernel),
  fun l0 l1 l3 l4 l5 l6 l7 l8 l9 x st σ => dn_iload_n eX3_mergeAhead dX3_mergeAhead_130 rfl,
  fun l0 l1 l2 l3 l4 l6 l7 l8 l9 x st σ => dn_iload eX3_mergeAhead dX3_mergeAhead_131 rfl,
  fun l0 l1 l2 l3 l4 l5 l6 l7 l8 l9 q i x st σ => dn_iastore eX3_mergeAhead dX3_mergeAhead_133,
  fun l1 l2 l3 l4 l5 l6 l7 l8 l9 x st σ => dn_aload_n eX3_mergeAhead dX3_mergeAhead_134 rfl⟩
set_option maxRecDepth 20000 in
theorem SX3_mergeAhead_2 : (∀ (l0 l1 l2 l3 l4 l5 l6 l7 l8 l9 : Option Value) (q : Nat) (st : List Value) (σ : dS), den mX3_mergeAhead 135 [l0, l1, l2, l3, l4, l5, l6, l7, l8, l9] (.ref q :: st) σ = (dget σ q 2 1).bind fun v => den mX3_mergeAhead 138 [l0, l1, l2, l3, l4, l5, l6, l7, l8, l9] (v :: st) σ) ∧
  (∀ (l0 l1 l3 l4 l5 l6 l7 l8 l9 : Option Value) (x : Int32) (st : List Value) (σ : dS), den mX3_mergeAhead 138 [l0, l1, some (.int x), l3, l4, l5, l6, l7, l8, l9] st σ = den mX3_mergeAhead 139 [l0, l1, some (.int x), l3, l4, l5, l6, l7, l8, l9] (.int x :: st) σ) ∧
  (∀ (l0 l1 l2 l3 l4 l5 l7 l8 l9 : Option Value) (x : Int32) (st : List Value) (σ : dS), den mX3_mergeAhead 139 [l0, l1, l2, l3, l4, l5, some (.int x), l7, l8, l9] st σ = den mX3_mergeAhead 141 [l0, l1, l2, l3, l4, l5, some (.int x), l7, l8, l9] (.int x :: st) σ) ∧
  (∀ (l0 l1 l2 l3 l4 l5 l6 l7 l8 l9 : Option Value) (q : Nat) (i x : Int32) (st : List Value) (σ : dS), den mX3_mergeAhead 141 [l0, l1, l2, l3, l4, l5, l6, l7, l8, l9] (.int x :: .int i :: .ref q :: st) σ = (dast σ q 0 i x).bind fun τ => den mX3_mergeAhead 142 [l0, l1, l2, l3, l4, l5, l6, l7, l8, l9] st τ) ∧
  (∀ (l1 l2 l3 l4 l5 l6 l7 l8 l9 : Option Value) (x : Nat) (st : List Value) (σ : dS), den mX3_mergeAhead 142 [some (.ref x), l1, l2, l3, l4, l5, l6, l7, l8, l9] st σ = den mX3_mergeAhead 143 [some (.ref x), l1, l2, l3, l4, l5, l6, l7, l8, l9] (.ref x :: st) σ) ∧
  (∀ (l0 l1 l2 l3 l4 l5 l6 l7 l8 l9 : Option Value) (q : Nat) (st : List Value) (σ : dS), den mX3_mergeAhead 143 [l0, l1, l2, l3, l4, l5, l6, l7, l8, l9] (.ref q :: st) σ = (dget σ q 2 2).bind fun v => den mX3_mergeAhead 146 [l0, l1, l2, l3, l4, l5, l6, l7, l8, l9] (v :: st) σ) ∧
  (∀ (l0 l1 l3 l4 l5 l6 l7 l8 l9 : Option Value) (x : Int32) (st : List Value) (σ : dS), den mX3_mergeAhead 146 [l0, l1, some (.int x), l3, l4, l5, l6, l7, l8, l9] st σ = den mX3_mergeAhead 147 [l0, l1, some (.int x), l3, l4, l5, l6, l7, l8, l9] (.int x :: st) σ) ∧
  (∀ (l0 l1 l2 l3 l4 l5 l6 l8 l9 : Option Value) (x : Int32) (st : List Value) (σ : dS), den mX3_mergeAhead 147 [l0, l1, l2, l3, l4, l5, l6, some (.int x), l8, l9] st σ = den mX3_mergeAhead 149 [l0, l1, l2, l3, l4, l5, l6, some (.int x), l8, l9] (.int x :: st) σ) ∧
  (∀ (l0 l1 l2 l3 l4 l5 l6 l7 l8 l9 : Option Value) (q : Nat) (i x : Int32) (st : List Value) (σ : dS), den mX3_mergeAhead 149 [l0, l1, l2, l3, l4, l5, l6, l7, l8, l9] (.int x :: .int i :: .ref q :: st) σ = (dast σ q 0 i x).bind fun τ => den mX3_mergeAhead 150 [l0, l1, l2, l3, l4, l5, l6, l7, l8, l9] st τ) ∧
  (∀ (l1 l2 l3 l4 l5 l6 l7 l8 l9 : Option Value) (x : Nat) (st : List Value) (σ : dS), den mX3_mergeAhead 150 [some (.ref x), l1, l2, l3, l4, l5, l6, l7, l8, l9] st σ = den mX3_mergeAhead 151 [some (.ref x), l1, l2, l3, l4, l5, l6, l7, l8, l9] (.ref x :: st) σ) ∧
  (∀ (l0 l1 l2 l3 l4 l5 l6 l7 l8 l9 : Option Value) (q : Nat) (st : List Value) (σ : dS), den mX3_mergeAhead 151 [l0, l1, l2, l3, l4, l5, l6, l7, l8, l9] (.ref q :: st) σ = (dget σ q 2 3).bind fun v => den mX3_mergeAhead 154 [l0, l1, l2, l3, l4, l5, l6, l7, l8, l9] (v :: st) σ) ∧
  (∀ (l0 l1 l3 l4 l5 l6 l7 l8 l9 : Option Value) (x : Int32) (st : List Value) (σ : dS), den mX3_mergeAhead 154 [l0, l1, some (.int x), l3, l4, l5, l6, l7, l8, l9] st σ = den mX3_mergeAhead 155 [l0, l1, some (.int x), l3, l4, l5, l6, l7, l8, l9] (.int x :: st) σ) ∧
  (∀ (l0 l1 l2 l3 l4 l5 l6 l7 l9 : Option Value) (x : Int32) (st : List Value) (σ : dS), den mX3_mergeAhead 155 [l0, l1, l2, l3, l4, l5, l6, l7, some (.int x), l9] st σ = den mX3_mergeAhead 157 [l0, l1, l2, l3, l4, l5, l6, l7, some (.int x), l9] (.int x :: st) σ) ∧
  (∀ (l0 l1 l2 l3 l4 l5 l6 l7 l8 l9 : Option Value) (q : Nat) (i x : Int32) (st : List Value) (σ : dS), den mX3_mergeAhead 157 [l0, l1, l2, l3, l4, l5, l6, l7, l8, l9] (.int x :: .int i :: .ref q :: st) σ = (dast σ q 0 i x).bind fun τ => den mX3_mergeAhead 158 [l0, l1, l2, l3, l4, l5, l6, l7, l8, l9] st τ) ∧
  (∀ (l1 l2 l3 l4 l5 l6 l7 l8 l9 : Option Value) (x : Nat) (st : List Value) (σ : dS), den mX3_mergeAhead 158 [some (.ref x), l1, l2, l3, l4, l5, l6, l7, l8, l9] st σ = den mX3_mergeAhead 159 [some (.ref x), l1, l2, l3, l4, l5, l6, l7, l8, l9] (.ref x :: st) σ) ∧
  (∀ (l0 l1 l2 l3 l4 l5 l6 l7 l8 l9 : Option Value) (q : Nat) (σ : dS), den mX3_mergeAhead 159 [l0, l1, l2, l3, l4, l5, l6, l7, l8, l9] [.ref q] σ = if disO σ q 2 = true then ((dcall mX3_findIfs [.ref q] σ).bind fun r => den mX3_mergeAhead 162 [l0, l1, l2, l3, l4, l5, l6, l7, l8, l9] (r.1.toList ++ []) r.2) else none) ∧
  (∀ (l0 l1 l2 l3 l4 l5 l6 l7 l8 l9 : Option Value) (σ : dS), den mX3_mergeAhead 162 [l0, l1, l2, l3, l4, l5, l6, l7, l8, l9] [] σ = some (none, σ)) :=
  ⟨fun l0 l1 l2 l3 l4 l5 l6 l7 l8 l9 q st σ => dn_getfield (f := (2, 1, 89)) eX3_mergeAhead dX3_mergeAhead_135 (by decide +kernel),
  fun l0 l1 l3 l4 l5 l6 l7 l8 l9 x st σ => dn_iload_n eX3_mergeAhead dX3_mergeAhead_138 rfl,
  fun l0 l1 l2 l3 l4 l5 l7 l8 l9 x st σ => dn_iload eX3_mergeAhead dX3_mergeAhead_139 rfl,
  fun l0 l1 l2 l3 l4 l5 l6 l7 l8 l9 q i x st σ => dn_iastore eX3_mergeAhead dX3_mergeAhead_141,
  fun l1 l2 l3 l4 l5 l6 l7 l8 l9 x st σ => dn_aload_n eX3_mergeAhead dX3_mergeAhead_142 rfl,
  fun l0 l1 l2 l3 l4 l5 l6 l7 l8 l9 q st σ => dn_getfield (f := (2, 2, 93)) eX3_mergeAhead dX3_mergeAhead_143 (by decide +kernel),
  fun l0 l1 l3 l4 l5 l6 l7 l8 l9 x st σ => dn_iload_n eX3_mergeAhead dX3_mergeAhead_146 rfl,
  fun l0 l1 l2 l3 l4 l5 l6 l8 l9 x st σ => dn_iload eX3_mergeAhead dX3_mergeAhead_147 rfl,
  fun l0 l1 l2 l3 l4 l5 l6 l7 l8 l9 q i x st σ => dn_iastore eX3_mergeAhead dX3_mergeAhead_149,
  fun l1 l2 l3 l4 l5 l6 l7 l8 l9 x st σ => dn_aload_n eX3_mergeAhead dX3_mergeAhead_150 rfl,
  fun l0 l1 l2 l3 l4 l5 l6 l7 l8 l9 q st σ => dn_getfield (f := (2, 3, 97)) eX3_mergeAhead dX3_mergeAhead_151 (by decide +kernel),
  fun l0 l1 l3 l4 l5 l6 l7 l8 l9 x st σ => dn_iload_n eX3_mergeAhead dX3_mergeAhead_154 rfl,
  fun l0 l1 l2 l3 l4 l5 l6 l7 l9 x st σ => dn_iload eX3_mergeAhead dX3_mergeAhead_155 rfl,
  fun l0 l1 l2 l3 l4 l5 l6 l7 l8 l9 q i x st σ => dn_iastore eX3_mergeAhead dX3_mergeAhead_157,
  fun l1 l2 l3 l4 l5 l6 l7 l8 l9 x st σ => dn_aload_n eX3_mergeAhead dX3_mergeAhead_158 rfl,
  fun l0 l1 l2 l3 l4 l5 l6 l7 l8 l9 q σ => rX3_mergeAhead_159 l0 l1 l2 l3 l4 l5 l6 l7 l8 l9 q σ,
  fun l0 l1 l2 l3 l4 l5 l6 l7 l8 l9 σ => dn_return eX3_mergeAhead dX3_mergeAhead_162 rfl⟩
theorem CX4_renew (a0 : Nat) (a1 : Int32) (a2 : Int32) (σ : dS) : dcall mX4_renew [.ref a0, .int a1, .int a2] σ = den mX4_renew 0 [some (.ref a0), some (.int a1), some (.int a2)] [] σ := dcall_den (by decide) rfl
set_option maxRecDepth 20000 in
theorem SX4_renew : (∀ (l1 l2 : Option Value) (x : Nat) (st : List Value) (σ : dS), den mX4_renew 0 [some (.ref x), l1, l2] st σ = den mX4_renew 1 [some (.ref x), l1, l2] (.ref x :: st) σ) ∧
  (∀ (l0 l1 l2 : Option Value) (q : Nat) (st : List Value) (σ : dS), den mX4_renew 1 [l0, l1, l2] (.ref q :: st) σ = (dget σ q 3 0).bind fun v => den mX4_renew 4 [l0, l1, l2] (v :: st) σ) ∧
  (∀ (l0 l1 l2 : Option Value) (st : List Value) (σ : dS), den mX4_renew 4 [l0, l1, l2] st σ = den mX4_renew 5 [l0, l1, l2] (.int (nI 0) :: st) σ) ∧
  (∀ (l0 l1 l2 : Option Value) (a0 : Nat) (a1 : Int32) (σ : dS), den mX4_renew 5 [l0, l1, l2] [.int a1, .ref a0] σ = (dcall mJ7_fill_53178 [.ref a0, .int a1] σ).bind fun r => den mX4_renew 8 [l0, l1, l2] (r.1.toList ++ []) r.2) ∧
  (∀ (l1 l2 : Option Value) (x : Nat) (st : List Value) (σ : dS), den mX4_renew 8 [some (.ref x), l1, l2] st σ = den mX4_renew 9 [some (.ref x), l1, l2] (.ref x :: st) σ) ∧
  (∀ (l0 l2 : Option Value) (x : Int32) (st : List Value) (σ : dS), den mX4_renew 9 [l0, some (.int x), l2] st σ = den mX4_renew 10 [l0, some (.int x), l2] (.int x :: st) σ) ∧
  (∀ (l0 l1 l2 : Option Value) (x : Int32) (q : Nat) (st : List Value) (σ : dS), den mX4_renew 10 [l0, l1, l2] (.int x :: .ref q :: st) σ = (dput σ q 3 1 (.int x)).bind fun τ => den mX4_renew 13 [l0, l1, l2] st τ) ∧
  (∀ (l1 l2 : Option Value) (x : Nat) (st : List Value) (σ : dS), den mX4_renew 13 [some (.ref x), l1, l2] st σ = den mX4_renew 14 [some (.ref x), l1, l2] (.ref x :: st) σ) ∧
  (∀ (l0 l1 : Option Value) (x : Int32) (st : List Value) (σ : dS), den mX4_renew 14 [l0, l1, some (.int x)] st σ = den mX4_renew 15 [l0, l1, some (.int x)] (.int x :: st) σ) ∧
  (∀ (l0 l1 l2 : Option Value) (x : Int32) (q : Nat) (st : List Value) (σ : dS), den mX4_renew 15 [l0, l1, l2] (.int x :: .ref q :: st) σ = (dput σ q 3 2 (.int x)).bind fun τ => den mX4_renew 18 [l0, l1, l2] st τ) ∧
  (∀ (l0 l1 l2 : Option Value) (σ : dS), den mX4_renew 18 [l0, l1, l2] [] σ = some (none, σ)) :=
  ⟨fun l1 l2 x st σ => dn_aload_n eX4_renew dX4_renew_0 rfl,
  fun l0 l1 l2 q st σ => dn_getfield (f := (3, 0, 247)) eX4_renew dX4_renew_1 (by decide +kernel),
  fun l0 l1 l2 st σ => dn_iconst eX4_renew dX4_renew_4 kc_iconst_0,
  fun l0 l1 l2 a0 a1 σ => dn_callS (e := (1, 2, 724)) (as := [.ref a0, .int a1]) (rest := []) eX4_renew dX4_renew_5 (by decide +kernel) (Or.inl rfl) (by decide +kernel) rfl (dcat_le rfl) (dlen_le rfl) rfl,
  fun l1 l2 x st σ => dn_aload_n eX4_renew dX4_renew_8 rfl,
  fun l0 l2 x st σ => dn_iload_n eX4_renew dX4_renew_9 rfl,
  fun l0 l1 l2 x q st σ => dn_putfield (f := (3, 1, 249)) (ty := .int) eX4_renew dX4_renew_10 (by decide +kernel) (by decide +kernel) rfl,
  fun l1 l2 x st σ => dn_aload_n eX4_renew dX4_renew_13 rfl,
  fun l0 l1 x st σ => dn_iload_n eX4_renew dX4_renew_14 rfl,
  fun l0 l1 l2 x q st σ => dn_putfield (f := (3, 2, 250)) (ty := .int) eX4_renew dX4_renew_15 (by decide +kernel) (by decide +kernel) rfl,
  fun l0 l1 l2 σ => dn_return eX4_renew dX4_renew_18 rfl⟩
theorem CX4_write (a0 : Nat) (a1 : Int32) (a2 : Int32) (σ : dS) : dcall mX4_write [.ref a0, .int a1, .int a2] σ = den mX4_write 0 [some (.ref a0), some (.int a1), some (.int a2)] [] σ := dcall_den (by decide) rfl
set_option maxRecDepth 20000 in
theorem SX4_write : (∀ (l1 l2 : Option Value) (x : Nat) (st : List Value) (σ : dS), den mX4_write 0 [some (.ref x), l1, l2] st σ = den mX4_write 1 [some (.ref x), l1, l2] (.ref x :: st) σ) ∧
  (∀ (l0 l1 l2 : Option Value) (q : Nat) (st : List Value) (σ : dS), den mX4_write 1 [l0, l1, l2] (.ref q :: st) σ = (dget σ q 3 1).bind fun v => den mX4_write 4 [l0, l1, l2] (v :: st) σ) ∧
  (∀ (l0 l1 l2 : Option Value) (x : Int32) (st : List Value) (σ : dS), den mX4_write 4 [l0, l1, l2] (.int x :: st) σ = if x = 0 then den mX4_write 7 [l0, l1, l2] st σ else den mX4_write 18 [l0, l1, l2] st σ) ∧
  (∀ (l1 l2 : Option Value) (x : Nat) (st : List Value) (σ : dS), den mX4_write 7 [some (.ref x), l1, l2] st σ = den mX4_write 8 [some (.ref x), l1, l2] (.ref x :: st) σ) ∧
  (∀ (l0 l1 l2 : Option Value) (q : Nat) (st : List Value) (σ : dS), den mX4_write 8 [l0, l1, l2] (.ref q :: st) σ = (dget σ q 3 0).bind fun v => den mX4_write 11 [l0, l1, l2] (v :: st) σ) ∧
  (∀ (l0 l2 : Option Value) (x : Int32) (st : List Value) (σ : dS), den mX4_write 11 [l0, some (.int x), l2] st σ = den mX4_write 12 [l0, some (.int x), l2] (.int x :: st) σ) ∧
  (∀ (l0 l1 : Option Value) (x : Int32) (st : List Value) (σ : dS), den mX4_write 12 [l0, l1, some (.int x)] st σ = den mX4_write 13 [l0, l1, some (.int x)] (.int x :: st) σ) ∧
  (∀ (l0 l1 l2 : Option Value) (x : Int32) (st : List Value) (σ : dS), den mX4_write 13 [l0, l1, l2] (.int x :: st) σ = den mX4_write 14 [l0, l1, l2] (.int x.toInt8.toInt32 :: st) σ) ∧
  (∀ (l0 l1 l2 : Option Value) (q : Nat) (i x : Int32) (st : List Value) (σ : dS), den mX4_write 14 [l0, l1, l2] (.int x :: .int i :: .ref q :: st) σ = (dast σ q 0 i x).bind fun τ => den mX4_write 15 [l0, l1, l2] st τ) ∧
  (∀ (l0 l1 l2 : Option Value) (st : List Value) (σ : dS), den mX4_write 15 [l0, l1, l2] st σ = den mX4_write 44 [l0, l1, l2] st σ) ∧
  (∀ (l1 l2 : Option Value) (x : Nat) (st : List Value) (σ : dS), den mX4_write 18 [some (.ref x), l1, l2] st σ = den mX4_write 19 [some (.ref x), l1, l2] (.ref x :: st) σ) ∧
  (∀ (l0 l1 l2 : Option Value) (q : Nat) (st : List Value) (σ : dS), den mX4_write 19 [l0, l1, l2] (.ref q :: st) σ = (dget σ q 3 1).bind fun v => den mX4_write 22 [l0, l1, l2] (v :: st) σ) ∧
  (∀ (l0 l1 l2 : Option Value) (st : List Value) (σ : dS), den mX4_write 22 [l0, l1, l2] st σ = den mX4_write 23 [l0, l1, l2] (.int (nI 1) :: st) σ) ∧
  (∀ (l0 l1 l2 : Option Value) (x y : Int32) (st : List Value) (σ : dS), den mX4_write 23 [l0, l1, l2] (.int y :: .int x :: st) σ = if x = y then den mX4_write 26 [l0, l1, l2] st σ else den mX4_write 37 [l0, l1, l2] st σ) ∧
  (∀ (l1 l2 : Option Value) (x : Nat) (st : List Value) (σ : dS), den mX4_write 26 [some (.ref x), l1, l2] st σ = den mX4_write 27 [some (.ref x), l1, l2] (.ref x :: st) σ) ∧
  (∀ (l0 l1 l2 : Option Value) (q : Nat) (st : List Value) (σ : dS), den mX4_write 27 [l0, l1, l2] (.ref q :: st) σ = (dget σ q 3 0).bind fun v => den mX4_write 30 [l0, l1, l2] (v :: st) σ) ∧
  (∀ (l0 l2 : Option Value) (x : Int32) (st : List Value) (σ : dS), den mX4_write 30 [l0, some (.int x), l2] st σ = den mX4_write 31 [l0, some (.int x), l2] (.int x :: st) σ) ∧
  (∀ (l0 l1 : Option Value) (x : Int32) (st : List Value) (σ : dS), den mX4_write 31 [l0, l1, some (.int x)] st σ = den mX4_write 32 [l0, l1, some (.int x)] (.int x :: st) σ) ∧
  (∀ (l0 l1 l2 : Option Value) (x : Int32) (st : List Value) (σ : dS), den mX4_write 32 [l0, l1, l2] (.int x :: st) σ = den mX4_write 33 [l0, l1, l2] (.int x.toInt16.toInt32 :: st) σ) ∧
  (∀ (l0 l1 l2 : Option Value) (q : Nat) (i x : Int32) (st : List Value) (σ : dS), den mX4_write 33 [l0, l1, l2] (.int x :: .int i :: .ref q :: st) σ = (dast σ q 0 i x).bind fun τ => den mX4_write 34 [l0, l1, l2] st τ) ∧
  (∀ (l0 l1 l2 : Option Value) (st : List Value) (σ : dS), den mX4_write 34 [l0, l1, l2] st σ = den mX4_write 44 [l0, l1, l2] st σ) ∧
  (∀ (l1 l2 : Option Value) (x : Nat) (st : List Value) (σ : dS), den mX4_write 37 [some (.ref x), l1, l2] st σ = den mX4_write 38 [some (.ref x), l1, l2] (.ref x :: st) σ) ∧
  (∀ (l0 l1 l2 : Option Value) (q : Nat) (st : List Value) (σ : dS), den mX4_write 38 [l0, l1, l2] (.ref q :: st) σ = (dget σ q 3 0).bind fun v => den mX4_write 41 [l0, l1, l2] (v :: st) σ) ∧
  (∀ (l0 l2 : Option Value) (x : Int32) (st : List Value) (σ : dS), den mX4_write 41 [l0, some (.int x), l2] st σ = den mX4_write 42 [l0, some (.int x), l2] (.int x :: st) σ) ∧
  (∀ (l0 l1 : Option Value) (x : Int32) (st : List Value) (σ : dS), den mX4_write 42 [l0, l1, some (.int x)] st σ = den mX4_write 43 [l0, l1, some (.int x)] (.int x :: st) σ) ∧
  (∀ (l0 l1 l2 : Option Value) (q : Nat) (i x : Int32) (st : List Value) (σ : dS), den mX4_write 43 [l0, l1, l2] (.int x :: .int i :: .ref q :: st) σ = (dast σ q 0 i x).bind fun τ => den mX4_write 44 [l0, l1, l2] st τ) ∧
  (∀ (l0 l1 l2 : Option Value) (σ : dS), den mX4_write 44 [l0, l1, l2] [] σ = some (none, σ)) :=
  ⟨fun l1 l2 x st σ => dn_aload_n eX4_write dX4_write_0 rfl,
  fun l0 l1 l2 q st σ => dn_getfield (f := (3, 1, 249)) eX4_write dX4_write_1 (by decide +kernel),
  fun l0 l1 l2 x st σ => dn_if_ne eX4_write dX4_write_4 (by decide),
  fun l1 l2 x st σ => dn_aload_n eX4_write dX4_write_7 rfl,
  fun l0 l1 l2 q st σ => dn_getfield (f := (3, 0, 247)) eX4_write dX4_write_8 (by decide +kernel),
  fun l0 l2 x st σ => dn_iload_n eX4_write dX4_write_11 rfl,
  fun l0 l1 x st σ => dn_iload_n eX4_write dX4_write_12 rfl,
  fun l0 l1 l2 x st σ => dn_i2b eX4_write dX4_write_13,
  fun l0 l1 l2 q i x st σ => dn_iastore eX4_write dX4_write_14,
  fun l0 l1 l2 st σ => dn_goto eX4_write dX4_write_15 (by decide),
  fun l1 l2 x st σ => dn_aload_n eX4_write dX4_write_18 rfl,
  fun l0 l1 l2 q st σ => dn_getfield (f := (3, 1, 249)) eX4_write dX4_write_19 (by decide +kernel),
  fun l0 l1 l2 st σ => dn_iconst eX4_write dX4_write_22 kc_iconst_1,
  fun l0 l1 l2 x y st σ => dn_icmp_ne eX4_write dX4_write_23 (by decide),
  fun l1 l2 x st σ => dn_aload_n eX4_write dX4_write_26 rfl,
  fun l0 l1 l2 q st σ => dn_getfield (f := (3, 0, 247)) eX4_write dX4_write_27 (by decide +kernel),
  fun l0 l2 x st σ => dn_iload_n eX4_write dX4_write_30 rfl,
  fun l0 l1 x st σ => dn_iload_n eX4_write dX4_write_31 rfl,
  fun l0 l1 l2 x st σ => dn_i2s eX4_write dX4_write_32,
  fun l0 l1 l2 q i x st σ => dn_iastore eX4_write dX4_write_33,
  fun l0 l1 l2 st σ => dn_goto eX4_write dX4_write_34 (by decide),
  fun l1 l2 x st σ => dn_aload_n eX4_write dX4_write_37 rfl,
  fun l0 l1 l2 q st σ => dn_getfield (f := (3, 0, 247)) eX4_write dX4_write_38 (by decide +kernel),
  fun l0 l2 x st σ => dn_iload_n eX4_write dX4_write_41 rfl,
  fun l0 l1 x st σ => dn_iload_n eX4_write dX4_write_42 rfl,
  fun l0 l1 l2 q i x st σ => dn_iastore eX4_write dX4_write_43,
  fun l0 l1 l2 σ => dn_return eX4_write dX4_write_44 rfl⟩
theorem CX4_faultOfChange (a0 : Nat) (a1 : Int32) (a2 : Int32) (σ : dS) : dcall mX4_faultOfChange [.ref a0, .int a1, .int a2] σ = den mX4_faultOfChange 0 [some (.ref a0), some (.int a1), some (.int a2)] [] σ := dcall_den (by decide) rfl
set_option maxRecDepth 20000 in
theorem SX4_faultOfChange : (∀ (l1 l2 : Option Value) (x : Nat) (st : List Value) (σ : dS), den mX4_faultOfChange 0 [some (.ref x), l1, l2] st σ = den mX4_faultOfChange 1 [some (.ref x), l1, l2] (.ref x :: st) σ) ∧
  (∀ (l0 l1 l2 : Option Value) (q : Nat) (st : List Value) (σ : dS), den mX4_faultOfChange 1 [l0, l1, l2] (.ref q :: st) σ = (dget σ q 3 2).bind fun v => den mX4_faultOfChange 4 [l0, l1, l2] (v :: st) σ) ∧
  (∀ (l0 l1 l2 : Option Value) (st : List Value) (σ : dS), den mX4_faultOfChange 4 [l0, l1, l2] st σ = den mX4_faultOfChange 6 [l0, l1, l2] (.int ((-4)) :: st) σ) ∧
  (∀ (l0 l1 l2 : Option Value) (x y : Int32) (st : List Value) (σ : dS), den mX4_faultOfChange 6 [l0, l1, l2] (.int y :: .int x :: st) σ = if x = y then den mX4_faultOfChange 9 [l0, l1, l2] st σ else den mX4_faultOfChange 11 [l0, l1, l2] st σ) ∧
  (∀ (l0 l1 l2 : Option Value) (st : List Value) (σ : dS), den mX4_faultOfChange 9 [l0, l1, l2] st σ = den mX4_faultOfChange 10 [l0, l1, l2] (.int (nI 1) :: st) σ) ∧
  (∀ (l0 l1 l2 : Option Value) (v : Int32) (σ : dS), den mX4_faultOfChange 10 [l0, l1, l2] [.int v] σ = some (some (.int v), σ)) ∧
  (∀ (l0 l2 : Option Value) (x : Int32) (st : List Value) (σ : dS), den mX4_faultOfChange 11 [l0, some (.int x), l2] st σ = den mX4_faultOfChange 12 [l0, some (.int x), l2] (.int x :: st) σ) ∧
  (∀ (l1 l2 : Option Value) (x : Nat) (st : List Value) (σ : dS), den mX4_faultOfChange 12 [some (.ref x), l1, l2] st σ = den mX4_faultOfChange 13 [some (.ref x), l1, l2] (.ref x :: st) σ) ∧
  (∀ (l0 l1 l2 : Option Value) (q : Nat) (st : List Value) (σ : dS), den mX4_faultOfChange 13 [l0, l1, l2] (.ref q :: st) σ = (dget σ q 3 1).bind fun v => den mX4_faultOfChange 16 [l0, l1, l2] (v :: st) σ) ∧
  (∀ (l0 l1 l2 : Option Value) (x y : Int32) (st : List Value) (σ : dS), den mX4_faultOfChange 16 [l0, l1, l2] (.int y :: .int x :: st) σ = if x = y then den mX4_faultOfChange 21 [l0, l1, l2] st σ else den mX4_faultOfChange 19 [l0, l1, l2] st σ) ∧
  (∀ (l0 l1 l2 : Option Value) (st : List Value) (σ : dS), den mX4_faultOfChange 19 [l0, l1, l2] st σ = den mX4_faultOfChange 20 [l0, l1, l2] (.int (nI 3) :: st) σ) ∧
  (∀ (l0 l1 l2 : Option Value) (v : Int32) (σ : dS), den mX4_faultOfChange 20 [l0, l1, l2] [.int v] σ = some (some (.int v), σ)) ∧
  (∀ (l0 l1 : Option Value) (x : Int32) (st : List Value) (σ : dS), den mX4_faultOfChange 21 [l0, l1, some (.int x)] st σ = den mX4_faultOfChange 22 [l0, l1, some (.int x)] (.int x :: st) σ) ∧
  (∀ (l0 l1 l2 : Option Value) (x : Int32) (st : List Value) (σ : dS), den mX4_faultOfChange 22 [l0, l1, l2] (.int x :: st) σ = if x < 0 then den mX4_faultOfChange 35 [l0, l1, l2] st σ else den mX4_faultOfChange 25 [l0, l1, l2] st σ) ∧
  (∀ (l0 l1 : Option Value) (x : Int32) (st : List Value) (σ : dS), den mX4_faultOfChange 25 [l0, l1, some (.int x)] st σ = den mX4_faultOfChange 26 [l0, l1, some (.int x)] (.int x :: st) σ) ∧
  (∀ (l1 l2 : Option Value) (x : Nat) (st : List Value) (σ : dS), den mX4_faultOfChange 26 [some (.ref x), l1, l2] st σ = den mX4_faultOfChange 27 [some (.ref x), l1, l2] (.ref x :: st) σ) ∧
  (∀ (l0 l1 l2 : Option Value) (q : Nat) (st : List Value) (σ : dS), den mX4_faultOfChange 27 [l0, l1, l2] (.ref q :: st) σ = (dget σ q 3 2).bind fun v => den mX4_faultOfChange 30 [l0, l1, l2] (v :: st) σ) ∧
  (∀ (l0 l1 l2 : Option Value) (st : List Value) (σ : dS), den mX4_faultOfChange 30 [l0, l1, l2] st σ = den mX4_faultOfChange 31 [l0, l1, l2] (.int (nI 3) :: st) σ) ∧
  (∀ (l0 l1 l2 : Option Value) (x y : Int32) (st : List Value) (σ : dS), den mX4_faultOfChange 31 [l0, l1, l2] (.int y :: .int x :: st) σ = den mX4_faultOfChange 32 [l0, l1, l2] (.int (x - y) :: st) σ) ∧
  (∀ (l0 l1 l2 : Option Value) (x y : Int32) (st : List Value) (σ : dS), den mX4_faultOfChange 32 [l0, l1, l2] (.int y :: .int x :: st) σ = if y < x then den mX4_faultOfChange 35 [l0, l1, l2] st σ else den mX4_faultOfChange 39 [l0, l1, l2] st σ) ∧
  (∀ (l0 l1 l2 : Option Value) (st : List Value) (σ : dS), den mX4_faultOfChange 35 [l0, l1, l2] st σ = den mX4_faultOfChange 36 [l0, l1, l2] (.int (nI 2) :: st) σ) ∧
  (∀ (l0 l1 l2 : Option Value) (st : List Value) (σ : dS), den mX4_faultOfChange 36 [l0, l1, l2] st σ = den mX4_faultOfChange 40 [l0, l1, l2] st σ) ∧
  (∀ (l0 l1 l2 : Option Value) (st : List Value) (σ : dS), den mX4_faultOfChange 39 [l0, l1, l2] st σ = den mX4_faultOfChange 40 [l0, l1, l2] (.int (nI 0) :: st) σ) ∧
  (∀ (l0 l1 l2 : Option Value) (v : Int32) (σ : dS), den mX4_faultOfChange 40 [l0, l1, l2] [.int v] σ = some (some (.int v), σ)) :=
  ⟨fun l1 l2 x st σ => dn_aload_n eX4_faultOfChange dX4_faultOfChange_0 rfl,
  fun l0 l1 l2 q st σ => dn_getfield (f := (3, 2, 250)) eX4_faultOfChange dX4_faultOfChange_1 (by decide +kernel),
  fun l0 l1 l2 st σ => dn_bipush eX4_faultOfChange dX4_faultOfChange_4 kc_bipush_m4,
  fun l0 l1 l2 x y st σ => dn_icmp_ne eX4_faultOfChange dX4_faultOfChange_6 (by decide),
  fun l0 l1 l2 st σ => dn_iconst eX4_faultOfChange dX4_faultOfChange_9 kc_iconst_1,
  fun l0 l1 l2 v σ => dn_ireturn eX4_faultOfChange dX4_faultOfChange_10 rfl,
  fun l0 l2 x st σ => dn_iload_n eX4_faultOfChange dX4_faultOfChange_11 rfl,
  fun l1 l2 x st σ => dn_aload_n eX4_faultOfChange dX4_faultOfChange_12 rfl,
  fun l0 l1 l2 q st σ => dn_getfield (f := (3, 1, 249)) eX4_faultOfChange dX4_faultOfChange_13 (by decide +kernel),
  fun l0 l1 l2 x y st σ => dn_icmp_eq eX4_faultOfChange dX4_faultOfChange_16 (by decide),
  fun l0 l1 l2 st σ => dn_iconst eX4_faultOfChange dX4_faultOfChange_19 kc_iconst_3,
  fun l0 l1 l2 v σ => dn_ireturn eX4_faultOfChange dX4_faultOfChange_20 rfl,
  fun l0 l1 x st σ => dn_iload_n eX4_faultOfChange dX4_faultOfChange_21 rfl,
  fun l0 l1 l2 x st σ => dn_if_lt eX4_faultOfChange dX4_faultOfChange_22 (by decide),
  fun l0 l1 x st σ => dn_iload_n eX4_faultOfChange dX4_faultOfChange_25 rfl,
  fun l1 l2 x st σ => dn_aload_n eX4_faultOfChange dX4_faultOfChange_26 rfl,
  fun l0 l1 l2 q st σ => dn_getfield (f := (3, 2, 250)) eX4_faultOfChange dX4_faultOfChange_27 (by decide +kernel),
  fun l0 l1 l2 st σ => dn_iconst eX4_faultOfChange dX4_faultOfChange_30 kc_iconst_3,
  fun l0 l1 l2 x y st σ => dn_isub eX4_faultOfChange dX4_faultOfChange_31,
  fun l0 l1 l2 x y st σ => dn_icmp_le eX4_faultOfChange dX4_faultOfChange_32 (by decide),
  fun l0 l1 l2 st σ => dn_iconst eX4_faultOfChange dX4_faultOfChange_35 kc_iconst_2,
  fun l0 l1 l2 st σ => dn_goto eX4_faultOfChange dX4_faultOfChange_36 (by decide),
  fun l0 l1 l2 st σ => dn_iconst eX4_faultOfChange dX4_faultOfChange_39 kc_iconst_0,
  fun l0 l1 l2 v σ => dn_ireturn eX4_faultOfChange dX4_faultOfChange_40 rfl⟩

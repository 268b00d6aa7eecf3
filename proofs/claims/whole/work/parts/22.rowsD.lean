theorem CX6_oneIf (a0 : Int32) (σ : dS) : dcall mX6_oneIf [.int a0] σ = den mX6_oneIf 0 [some (.int a0)] [] σ := dcall_den (by decide) rfl
set_option maxRecDepth 20000 in
theorem SX6_oneIf : (∀ (x : Int32) (st : List Value) (σ : dS), den mX6_oneIf 0 [some (.int x)] st σ = den mX6_oneIf 1 [some (.int x)] (.int x :: st) σ) ∧
  (∀ (l0 : Option Value) (x : Int32) (st : List Value) (σ : dS), den mX6_oneIf 1 [l0] (.int x :: st) σ = if x = 0 then den mX6_oneIf 8 [l0] st σ else den mX6_oneIf 4 [l0] st σ) ∧
  (∀ (l0 : Option Value) (st : List Value) (σ : dS), den mX6_oneIf 4 [l0] st σ = den mX6_oneIf 5 [l0] (.int (nI 1) :: st) σ) ∧
  (∀ (l0 : Option Value) (st : List Value) (σ : dS), den mX6_oneIf 5 [l0] st σ = den mX6_oneIf 9 [l0] st σ) ∧
  (∀ (l0 : Option Value) (st : List Value) (σ : dS), den mX6_oneIf 8 [l0] st σ = den mX6_oneIf 9 [l0] (.int (nI 0) :: st) σ) ∧
  (∀ (l0 : Option Value) (v : Int32) (σ : dS), den mX6_oneIf 9 [l0] [.int v] σ = some (some (.int v), σ)) :=
  ⟨fun x st σ => dn_iload_n eX6_oneIf dX6_oneIf_0 rfl,
  fun l0 x st σ => dn_if_eq eX6_oneIf dX6_oneIf_1 (by decide),
  fun l0 st σ => dn_iconst eX6_oneIf dX6_oneIf_4 kc_iconst_1,
  fun l0 st σ => dn_goto eX6_oneIf dX6_oneIf_5 (by decide),
  fun l0 st σ => dn_iconst eX6_oneIf dX6_oneIf_8 kc_iconst_0,
  fun l0 v σ => dn_ireturn eX6_oneIf dX6_oneIf_9 rfl⟩
theorem CX6_feed (a0 : Nat) (a1 : Int32) (σ : dS) : dcall mX6_feed [.ref a0, .int a1] σ = den mX6_feed 0 [some (.ref a0), some (.int a1)] [] σ := dcall_den (by decide) rfl
set_option maxRecDepth 20000 in
theorem SX6_feed : (∀ (l0 : Option Value) (x : Int32) (st : List Value) (σ : dS), den mX6_feed 0 [l0, some (.int x)] st σ = den mX6_feed 1 [l0, some (.int x)] (.int x :: st) σ) ∧
  (∀ (l0 l1 : Option Value) (x : Int32) (st : List Value) (σ : dS), den mX6_feed 1 [l0, l1] (.int x :: st) σ = if x < 0 then den mX6_feed 10 [l0, l1] st σ else den mX6_feed 4 [l0, l1] st σ) ∧
  (∀ (l0 : Option Value) (x : Int32) (st : List Value) (σ : dS), den mX6_feed 4 [l0, some (.int x)] st σ = den mX6_feed 5 [l0, some (.int x)] (.int x :: st) σ) ∧
  (∀ (l0 l1 : Option Value) (st : List Value) (σ : dS), den mX6_feed 5 [l0, l1] st σ = den mX6_feed 7 [l0, l1] (.int (nI 127) :: st) σ) ∧
  (∀ (l0 l1 : Option Value) (x y : Int32) (st : List Value) (σ : dS), den mX6_feed 7 [l0, l1] (.int y :: .int x :: st) σ = if y < x then den mX6_feed 10 [l0, l1] st σ else den mX6_feed 12 [l0, l1] st σ) ∧
  (∀ (l0 l1 : Option Value) (st : List Value) (σ : dS), den mX6_feed 10 [l0, l1] st σ = den mX6_feed 11 [l0, l1] (.int ((-1)) :: st) σ) ∧
  (∀ (l0 l1 : Option Value) (v : Int32) (σ : dS), den mX6_feed 11 [l0, l1] [.int v] σ = some (some (.int v), σ)) ∧
  (∀ (l1 : Option Value) (x : Nat) (st : List Value) (σ : dS), den mX6_feed 12 [some (.ref x), l1] st σ = den mX6_feed 13 [some (.ref x), l1] (.ref x :: st) σ) ∧
  (∀ (l0 l1 : Option Value) (q : Nat) (st : List Value) (σ : dS), den mX6_feed 13 [l0, l1] (.ref q :: st) σ = (dget σ q 5 0).bind fun v => den mX6_feed 16 [l0, l1] (v :: st) σ) ∧
  (∀ (l0 l1 : Option Value) (q : Nat) (st : List Value) (σ : dS), den mX6_feed 16 [l0, l1] (.ref q :: st) σ = (dget σ q 4 3).bind fun v => den mX6_feed 19 [l0, l1] (v :: st) σ) ∧
  (∀ (l0 l1 : Option Value) (st : List Value) (σ : dS), den mX6_feed 19 [l0, l1] st σ = den mX6_feed 22 [l0, l1] (.int (nI 320) :: st) σ) ∧
  (∀ (l0 l1 : Option Value) (x y : Int32) (st : List Value) (σ : dS), den mX6_feed 22 [l0, l1] (.int y :: .int x :: st) σ = if x < y then den mX6_feed 28 [l0, l1] st σ else den mX6_feed 25 [l0, l1] st σ) ∧
  (∀ (l0 l1 : Option Value) (st : List Value) (σ : dS), den mX6_feed 25 [l0, l1] st σ = den mX6_feed 27 [l0, l1] (.int ((-3)) :: st) σ) ∧
  (∀ (l0 l1 : Option Value) (v : Int32) (σ : dS), den mX6_feed 27 [l0, l1] [.int v] σ = some (some (.int v), σ)) ∧
  (∀ (l1 : Option Value) (x : Nat) (st : List Value) (σ : dS), den mX6_feed 28 [some (.ref x), l1] st σ = den mX6_feed 29 [some (.ref x), l1] (.ref x :: st) σ) ∧
  (∀ (l0 l1 : Option Value) (q : Nat) (st : List Value) (σ : dS), den mX6_feed 29 [l0, l1] (.ref q :: st) σ = (dget σ q 5 0).bind fun v => den mX6_feed 32 [l0, l1] (v :: st) σ) ∧
  (∀ (l0 l1 : Option Value) (q : Nat) (st : List Value) (σ : dS), den mX6_feed 32 [l0, l1] (.ref q :: st) σ = (dget σ q 4 1).bind fun v => den mX6_feed 35 [l0, l1] (v :: st) σ) ∧
  (∀ (l1 : Option Value) (x : Nat) (st : List Value) (σ : dS), den mX6_feed 35 [some (.ref x), l1] st σ = den mX6_feed 36 [some (.ref x), l1] (.ref x :: st) σ) ∧
  (∀ (l0 l1 : Option Value) (q : Nat) (st : List Value) (σ : dS), den mX6_feed 36 [l0, l1] (.ref q :: st) σ = (dget σ q 5 0).bind fun v => den mX6_feed 39 [l0, l1] (v :: st) σ) ∧
  (∀ (l0 l1 : Option Value) (q : Nat) (st : List Value) (σ : dS), den mX6_feed 39 [l0, l1] (.ref q :: st) σ = (dget σ q 4 3).bind fun v => den mX6_feed 42 [l0, l1] (v :: st) σ) ∧
  (∀ (l0 : Option Value) (x : Int32) (st : List Value) (σ : dS), den mX6_feed 42 [l0, some (.int x)] st σ = den mX6_feed 43 [l0, some (.int x)] (.int x :: st) σ) ∧
  (∀ (l0 l1 : Option Value) (x : Int32) (st : List Value) (σ : dS), den mX6_feed 43 [l0, l1] (.int x :: st) σ = den mX6_feed 44 [l0, l1] (.int x.toInt8.toInt32 :: st) σ) ∧
  (∀ (l0 l1 : Option Value) (q : Nat) (i x : Int32) (st : List Value) (σ : dS), den mX6_feed 44 [l0, l1] (.int x :: .int i :: .ref q :: st) σ = (dbst σ q i x).bind fun τ => den mX6_feed 45 [l0, l1] st τ) ∧
  (∀ (l1 : Option Value) (x : Nat) (st : List Value) (σ : dS), den mX6_feed 45 [some (.ref x), l1] st σ = den mX6_feed 46 [some (.ref x), l1] (.ref x :: st) σ) ∧
  (∀ (l0 l1 : Option Value) (q : Nat) (st : List Value) (σ : dS), den mX6_feed 46 [l0, l1] (.ref q :: st) σ = (dget σ q 5 0).bind fun v => den mX6_feed 49 [l0, l1] (v :: st) σ) ∧
  (∀ (l0 l1 : Option Value) (x : Nat) (st : List Value) (σ : dS), den mX6_feed 49 [l0, l1] (.ref x :: st) σ = den mX6_feed 50 [l0, l1] (.ref x :: .ref x :: st) σ) ∧
  (∀ (l0 l1 : Option Value) (q : Nat) (st : List Value) (σ : dS), den mX6_feed 50 [l0, l1] (.ref q :: st) σ = (dget σ q 4 3).bind fun v => den mX6_feed 53 [l0, l1] (v :: st) σ) ∧
  (∀ (l0 l1 : Option Value) (st : List Value) (σ : dS), den mX6_feed 53 [l0, l1] st σ = den mX6_feed 54 [l0, l1] (.int (nI 1) :: st) σ) ∧
  (∀ (l0 l1 : Option Value) (x y : Int32) (st : List Value) (σ : dS), den mX6_feed 54 [l0, l1] (.int y :: .int x :: st) σ = den mX6_feed 55 [l0, l1] (.int (x + y) :: st) σ) ∧
  (∀ (l0 l1 : Option Value) (x : Int32) (q : Nat) (st : List Value) (σ : dS), den mX6_feed 55 [l0, l1] (.int x :: .ref q :: st) σ = (dput σ q 4 3 (.int x)).bind fun τ => den mX6_feed 58 [l0, l1] st τ) ∧
  (∀ (l1 : Option Value) (x : Nat) (st : List Value) (σ : dS), den mX6_feed 58 [some (.ref x), l1] st σ = den mX6_feed 59 [some (.ref x), l1] (.ref x :: st) σ) ∧
  (∀ (l0 l1 : Option Value) (q : Nat) (st : List Value) (σ : dS), den mX6_feed 59 [l0, l1] (.ref q :: st) σ = (dget σ q 5 0).bind fun v => den mX6_feed 62 [l0, l1] (v :: st) σ) ∧
  (∀ (l0 l1 : Option Value) (q : Nat) (st : List Value) (σ : dS), den mX6_feed 62 [l0, l1] (.ref q :: st) σ = (dget σ q 4 3).bind fun v => den mX6_feed 65 [l0, l1] (v :: st) σ) ∧
  (∀ (l0 l1 : Option Value) (v : Int32) (σ : dS), den mX6_feed 65 [l0, l1] [.int v] σ = some (some (.int v), σ)) :=
  ⟨fun l0 x st σ => dn_iload_n eX6_feed dX6_feed_0 rfl,
  fun l0 l1 x st σ => dn_if_lt eX6_feed dX6_feed_1 (by decide),
  fun l0 x st σ => dn_iload_n eX6_feed dX6_feed_4 rfl,
  fun l0 l1 st σ => dn_bipush eX6_feed dX6_feed_5 kc_bipush_127,
  fun l0 l1 x y st σ => dn_icmp_le eX6_feed dX6_feed_7 (by decide),
  fun l0 l1 st σ => dn_iconst eX6_feed dX6_feed_10 kc_iconst_m1,
  fun l0 l1 v σ => dn_ireturn eX6_feed dX6_feed_11 rfl,
  fun l1 x st σ => dn_aload_n eX6_feed dX6_feed_12 rfl,
  fun l0 l1 q st σ => dn_getfield (f := (5, 0, 259)) eX6_feed dX6_feed_13 (by decide +kernel),
  fun l0 l1 q st σ => dn_getfield (f := (4, 3, 149)) eX6_feed dX6_feed_16 (by decide +kernel),
  fun l0 l1 st σ => dn_sipush eX6_feed dX6_feed_19 kc_sipush_320,
  fun l0 l1 x y st σ => dn_icmp_lt eX6_feed dX6_feed_22 (by decide),
  fun l0 l1 st σ => dn_bipush eX6_feed dX6_feed_25 kc_bipush_m3,
  fun l0 l1 v σ => dn_ireturn eX6_feed dX6_feed_27 rfl,
  fun l1 x st σ => dn_aload_n eX6_feed dX6_feed_28 rfl,
  fun l0 l1 q st σ => dn_getfield (f := (5, 0, 259)) eX6_feed dX6_feed_29 (by decide +kernel),
  fun l0 l1 q st σ => dn_getfield (f := (4, 1, 147)) eX6_feed dX6_feed_32 (by decide +kernel),
  fun l1 x st σ => dn_aload_n eX6_feed dX6_feed_35 rfl,
  fun l0 l1 q st σ => dn_getfield (f := (5, 0, 259)) eX6_feed dX6_feed_36 (by decide +kernel),
  fun l0 l1 q st σ => dn_getfield (f := (4, 3, 149)) eX6_feed dX6_feed_39 (by decide +kernel),
  fun l0 x st σ => dn_iload_n eX6_feed dX6_feed_42 rfl,
  fun l0 l1 x st σ => dn_i2b eX6_feed dX6_feed_43,
  fun l0 l1 q i x st σ => dn_bastore eX6_feed dX6_feed_44,
  fun l1 x st σ => dn_aload_n eX6_feed dX6_feed_45 rfl,
  fun l0 l1 q st σ => dn_getfield (f := (5, 0, 259)) eX6_feed dX6_feed_46 (by decide +kernel),
  fun l0 l1 x st σ => dn_dup eX6_feed dX6_feed_49 rfl,
  fun l0 l1 q st σ => dn_getfield (f := (4, 3, 149)) eX6_feed dX6_feed_50 (by decide +kernel),
  fun l0 l1 st σ => dn_iconst eX6_feed dX6_feed_53 kc_iconst_1,
  fun l0 l1 x y st σ => dn_iadd eX6_feed dX6_feed_54,
  fun l0 l1 x q st σ => dn_putfield (f := (4, 3, 149)) (ty := .int) eX6_feed dX6_feed_55 (by decide +kernel) (by decide +kernel) rfl,
  fun l1 x st σ => dn_aload_n eX6_feed dX6_feed_58 rfl,
  fun l0 l1 q st σ => dn_getfield (f := (5, 0, 259)) eX6_feed dX6_feed_59 (by decide +kernel),
  fun l0 l1 q st σ => dn_getfield (f := (4, 3, 149)) eX6_feed dX6_feed_62 (by decide +kernel),
  fun l0 l1 v σ => dn_ireturn eX6_feed dX6_feed_65 rfl⟩
theorem CX6_end (a0 : Nat) (a1 : Int32) (σ : dS) : dcall mX6_end [.ref a0, .int a1] σ = den mX6_end 0 [some (.ref a0), some (.int a1), none] [] σ := dcall_den (by decide) rfl
set_option maxRecDepth 20000 in
theorem SX6_end : (∀ (l1 l2 : Option Value) (x : Nat) (st : List Value) (σ : dS), den mX6_end 0 [some (.ref x), l1, l2] st σ = den mX6_end 1 [some (.ref x), l1, l2] (.ref x :: st) σ) ∧
  (∀ (l0 l1 l2 : Option Value) (q : Nat) (st : List Value) (σ : dS), den mX6_end 1 [l0, l1, l2] (.ref q :: st) σ = (dget σ q 5 0).bind fun v => den mX6_end 4 [l0, l1, l2] (v :: st) σ) ∧
  (∀ (l0 l1 l2 : Option Value) (q : Nat) (st : List Value) (σ : dS), den mX6_end 4 [l0, l1, l2] (.ref q :: st) σ = (dget σ q 4 3).bind fun v => den mX6_end 7 [l0, l1, l2] (v :: st) σ) ∧
  (∀ (l0 l2 : Option Value) (x : Int32) (y : Int32) (st : List Value) (σ : dS), den mX6_end 7 [l0, some (.int y), l2] (.int x :: st) σ = den mX6_end 8 [l0, some (.int y), some (.int x)] st σ) ∧
  (∀ (l0 l2 : Option Value) (x : Int32) (st : List Value) (σ : dS), den mX6_end 8 [l0, some (.int x), l2] st σ = den mX6_end 9 [l0, some (.int x), l2] (.int x :: st) σ) ∧
  (∀ (l0 l1 l2 : Option Value) (x : Int32) (st : List Value) (σ : dS), den mX6_end 9 [l0, l1, l2] (.int x :: st) σ = if x < 0 then den mX6_end 17 [l0, l1, l2] st σ else den mX6_end 12 [l0, l1, l2] st σ) ∧
  (∀ (l0 l2 : Option Value) (x : Int32) (st : List Value) (σ : dS), den mX6_end 12 [l0, some (.int x), l2] st σ = den mX6_end 13 [l0, some (.int x), l2] (.int x :: st) σ) ∧
  (∀ (l0 l1 : Option Value) (x : Int32) (st : List Value) (σ : dS), den mX6_end 13 [l0, l1, some (.int x)] st σ = den mX6_end 14 [l0, l1, some (.int x)] (.int x :: st) σ) ∧
  (∀ (l0 l1 l2 : Option Value) (x y : Int32) (st : List Value) (σ : dS), den mX6_end 14 [l0, l1, l2] (.int y :: .int x :: st) σ = if y < x then den mX6_end 17 [l0, l1, l2] st σ else den mX6_end 19 [l0, l1, l2] st σ) ∧
  (∀ (l0 l1 l2 : Option Value) (st : List Value) (σ : dS), den mX6_end 17 [l0, l1, l2] st σ = den mX6_end 18 [l0, l1, l2] (.int ((-1)) :: st) σ) ∧
  (∀ (l0 l1 l2 : Option Value) (v : Int32) (σ : dS), den mX6_end 18 [l0, l1, l2] [.int v] σ = some (some (.int v), σ)) ∧
  (∀ (l1 l2 : Option Value) (x : Nat) (st : List Value) (σ : dS), den mX6_end 19 [some (.ref x), l1, l2] st σ = den mX6_end 20 [some (.ref x), l1, l2] (.ref x :: st) σ) ∧
  (∀ (l0 l1 l2 : Option Value) (q : Nat) (st : List Value) (σ : dS), den mX6_end 20 [l0, l1, l2] (.ref q :: st) σ = (dget σ q 5 0).bind fun v => den mX6_end 23 [l0, l1, l2] (v :: st) σ) ∧
  (∀ (l0 l2 : Option Value) (x : Int32) (st : List Value) (σ : dS), den mX6_end 23 [l0, some (.int x), l2] st σ = den mX6_end 24 [l0, some (.int x), l2] (.int x :: st) σ) ∧
  (∀ (l0 l1 l2 : Option Value) (x : Int32) (q : Nat) (st : List Value) (σ : dS), den mX6_end 24 [l0, l1, l2] (.int x :: .ref q :: st) σ = (dput σ q 4 3 (.int x)).bind fun τ => den mX6_end 27 [l0, l1, l2] st τ) ∧
  (∀ (l0 l1 : Option Value) (x : Int32) (st : List Value) (σ : dS), den mX6_end 27 [l0, l1, some (.int x)] st σ = den mX6_end 28 [l0, l1, some (.int x)] (.int x :: st) σ) ∧
  (∀ (l0 l1 l2 : Option Value) (v : Int32) (σ : dS), den mX6_end 28 [l0, l1, l2] [.int v] σ = some (some (.int v), σ)) :=
  ⟨fun l1 l2 x st σ => dn_aload_n eX6_end dX6_end_0 rfl,
  fun l0 l1 l2 q st σ => dn_getfield (f := (5, 0, 259)) eX6_end dX6_end_1 (by decide +kernel),
  fun l0 l1 l2 q st σ => dn_getfield (f := (4, 3, 149)) eX6_end dX6_end_4 (by decide +kernel),
  fun l0 l2 x y st σ => dn_istore_n eX6_end dX6_end_7 rfl,
  fun l0 l2 x st σ => dn_iload_n eX6_end dX6_end_8 rfl,
  fun l0 l1 l2 x st σ => dn_if_lt eX6_end dX6_end_9 (by decide),
  fun l0 l2 x st σ => dn_iload_n eX6_end dX6_end_12 rfl,
  fun l0 l1 x st σ => dn_iload_n eX6_end dX6_end_13 rfl,
  fun l0 l1 l2 x y st σ => dn_icmp_le eX6_end dX6_end_14 (by decide),
  fun l0 l1 l2 st σ => dn_iconst eX6_end dX6_end_17 kc_iconst_m1,
  fun l0 l1 l2 v σ => dn_ireturn eX6_end dX6_end_18 rfl,
  fun l1 l2 x st σ => dn_aload_n eX6_end dX6_end_19 rfl,
  fun l0 l1 l2 q st σ => dn_getfield (f := (5, 0, 259)) eX6_end dX6_end_20 (by decide +kernel),
  fun l0 l2 x st σ => dn_iload_n eX6_end dX6_end_23 rfl,
  fun l0 l1 l2 x q st σ => dn_putfield (f := (4, 3, 149)) (ty := .int) eX6_end dX6_end_24 (by decide +kernel) (by decide +kernel) rfl,
  fun l0 l1 x st σ => dn_iload_n eX6_end dX6_end_27 rfl,
  fun l0 l1 l2 v σ => dn_ireturn eX6_end dX6_end_28 rfl⟩
theorem CX6_text (a0 : Nat) (σ : dS) : dcall mX6_text [.ref a0] σ = den mX6_text 0 [some (.ref a0), none, none] [] σ := dcall_den (by decide) rfl
theorem rX6_text_4 (l0 l1 l2 : Option Value) (q : Nat) (σ : dS) : den mX6_text 4 [l0, l1, l2] [.ref q] σ = if disO σ q 4 = true then ((dcall mX5_takeAll [.ref q] σ).bind fun r => den mX6_text 7 [l0, l1, l2] (r.1.toList ++ []) r.2) else none := by
  by_cases h : disO σ q 4 = true
  · rw [if_pos h]; exact dn_callV (e := (0, 67, 302)) (as := []) (rest := []) eX6_text dX6_text_4 (by decide +kernel) rfl (by decide +kernel) rfl (dcat_le rfl) (dlen_le rfl) rfl h
  · rw [if_neg h]; exact den_noV (e := (0, 67, 302)) (as := []) (rest := []) eX6_text dX6_text_4 (by decide +kernel) rfl rfl rfl h
theorem rX6_text_42 (l0 l1 l2 : Option Value) (a0 : Nat) (q : Nat) (σ : dS) : den mX6_text 42 [l0, l1, l2] [.ref a0, .ref q] σ = if disO σ q 2 = true then ((dcall mX3_becomeLike [.ref q, .ref a0] σ).bind fun r => den mX6_text 45 [l0, l1, l2] (r.1.toList ++ []) r.2) else none := by
  by_cases h : disO σ q 2 = true
  · rw [if_pos h]; exact dn_callV (e := (0, 25, 419)) (as := [.ref a0]) (rest := []) eX6_text dX6_text_42 (by decide +kernel) rfl (by decide +kernel) rfl (dcat_le rfl) (dlen_le rfl) rfl h
  · rw [if_neg h]; exact den_noV (e := (0, 25, 419)) (as := [.ref a0]) (rest := []) eX6_text dX6_text_42 (by decide +kernel) rfl rfl rfl h
theorem hX6_text_52 (l0 l1 : Option Value) (x : Int32) (st : List Value) (σ : dS) : den mX6_text 52 [l0, l1, some (.int x)] st σ = den mX6_text 53 [l0, l1, some (.int x)] (.int x :: st) σ := dn_iload_n eX6_text dX6_text_52 rfl
set_option maxRecDepth 20000 in
theorem SX6_text : (∀ (l1 l2 : Option Value) (x : Nat) (st : List Value) (σ : dS), den mX6_text 0 [some (.ref x), l1, l2] st σ = den mX6_text 1 [some (.ref x), l1, l2] (.ref x :: st) σ) ∧
  (∀ (l0 l1 l2 : Option Value) (q : Nat) (st : List Value) (σ : dS), den mX6_text 1 [l0, l1, l2] (.ref q :: st) σ = (dget σ q 5 0).bind fun v => den mX6_text 4 [l0, l1, l2] (v :: st) σ) ∧
  (∀ (l0 l1 l2 : Option Value) (q : Nat) (σ : dS), den mX6_text 4 [l0, l1, l2] [.ref q] σ = if disO σ q 4 = true then ((dcall mX5_takeAll [.ref q] σ).bind fun r => den mX6_text 7 [l0, l1, l2] (r.1.toList ++ []) r.2) else none) ∧
  (∀ (l1 l2 : Option Value) (x : Int32) (y : Nat) (st : List Value) (σ : dS), den mX6_text 7 [some (.ref y), l1, l2] (.int x :: st) σ = den mX6_text 8 [some (.ref y), some (.int x), l2] st σ) ∧
  (∀ (l1 l2 : Option Value) (x : Nat) (st : List Value) (σ : dS), den mX6_text 8 [some (.ref x), l1, l2] st σ = den mX6_text 9 [some (.ref x), l1, l2] (.ref x :: st) σ) ∧
  (∀ (l0 l1 l2 : Option Value) (q : Nat) (st : List Value) (σ : dS), den mX6_text 9 [l0, l1, l2] (.ref q :: st) σ = (dget σ q 5 0).bind fun v => den mX6_text 12 [l0, l1, l2] (v :: st) σ) ∧
  (∀ (l0 l1 l2 : Option Value) (st : List Value) (σ : dS), den mX6_text 12 [l0, l1, l2] st σ = den mX6_text 13 [l0, l1, l2] (.int (nI 0) :: st) σ) ∧
  (∀ (l0 l1 l2 : Option Value) (x : Int32) (q : Nat) (st : List Value) (σ : dS), den mX6_text 13 [l0, l1, l2] (.int x :: .ref q :: st) σ = (dput σ q 4 3 (.int x)).bind fun τ => den mX6_text 16 [l0, l1, l2] st τ) ∧
  (∀ (l0 l2 : Option Value) (x : Int32) (st : List Value) (σ : dS), den mX6_text 16 [l0, some (.int x), l2] st σ = den mX6_text 17 [l0, some (.int x), l2] (.int x :: st) σ) ∧
  (∀ (l0 l1 l2 : Option Value) (x : Int32) (st : List Value) (σ : dS), den mX6_text 17 [l0, l1, l2] (.int x :: st) σ = if x = 0 then den mX6_text 20 [l0, l1, l2] st σ else den mX6_text 31 [l0, l1, l2] st σ) ∧
  (∀ (l0 l1 l2 : Option Value) (st : List Value) (σ : dS), den mX6_text 20 [l0, l1, l2] st σ = den mX6_text 22 [l0, l1, l2] (.int ((-10)) :: st) σ) ∧
  (∀ (l1 l2 : Option Value) (x : Nat) (st : List Value) (σ : dS), den mX6_text 22 [some (.ref x), l1, l2] st σ = den mX6_text 23 [some (.ref x), l1, l2] (.ref x :: st) σ) ∧
  (∀ (l0 l1 l2 : Option Value) (q : Nat) (st : List Value) (σ : dS), den mX6_text 23 [l0, l1, l2] (.ref q :: st) σ = (dget σ q 5 0).bind fun v => den mX6_text 26 [l0, l1, l2] (v :: st) σ) ∧
  (∀ (l0 l1 l2 : Option Value) (q : Nat) (st : List Value) (σ : dS), den mX6_text 26 [l0, l1, l2] (.ref q :: st) σ = (dget σ q 4 9).bind fun v => den mX6_text 29 [l0, l1, l2] (v :: st) σ) ∧
  (∀ (l0 l1 l2 : Option Value) (x y : Int32) (st : List Value) (σ : dS), den mX6_text 29 [l0, l1, l2] (.int y :: .int x :: st) σ = den mX6_text 30 [l0, l1, l2] (.int (x - y) :: st) σ) ∧
  (∀ (l0 l1 l2 : Option Value) (v : Int32) (σ : dS), den mX6_text 30 [l0, l1, l2] [.int v] σ = some (some (.int v), σ)) ∧
  (∀ (l1 l2 : Option Value) (x : Nat) (st : List Value) (σ : dS), den mX6_text 31 [some (.ref x), l1, l2] st σ = den mX6_text 32 [some (.ref x), l1, l2] (.ref x :: st) σ) ∧
  (∀ (l0 l1 l2 : Option Value) (q : Nat) (st : List Value) (σ : dS), den mX6_text 32 [l0, l1, l2] (.ref q :: st) σ = (dget σ q 5 1).bind fun v => den mX6_text 35 [l0, l1, l2] (v :: st) σ) ∧
  (∀ (l1 l2 : Option Value) (x : Nat) (st : List Value) (σ : dS), den mX6_text 35 [some (.ref x), l1, l2] st σ = den mX6_text 36 [some (.ref x), l1, l2] (.ref x :: st) σ) ∧
  (∀ (l0 l1 l2 : Option Value) (q : Nat) (st : List Value) (σ : dS), den mX6_text 36 [l0, l1, l2] (.ref q :: st) σ = (dget σ q 5 0).bind fun v => den mX6_text 39 [l0, l1, l2] (v :: st) σ) ∧
  (∀ (l0 l1 l2 : Option Value) (q : Nat) (st : List Value) (σ : dS), den mX6_text 39 [l0, l1, l2] (.ref q :: st) σ = (dget σ q 4 0).bind fun v => den mX6_text 42 [l0, l1, l2] (v :: st) σ) ∧
  (∀ (l0 l1 l2 : Option Value) (a0 : Nat) (q : Nat) (σ : dS), den mX6_text 42 [l0, l1, l2] [.ref a0, .ref q] σ = if disO σ q 2 = true then ((dcall mX3_becomeLike [.ref q, .ref a0] σ).bind fun r => den mX6_text 45 [l0, l1, l2] (r.1.toList ++ []) r.2) else none) ∧
  (∀ (l1 l2 : Option Value) (x : Nat) (st : List Value) (σ : dS), den mX6_text 45 [some (.ref x), l1, l2] st σ = den mX6_text 46 [some (.ref x), l1, l2] (.ref x :: st) σ) ∧
  (∀ (l0 l1 l2 : Option Value) (st : List Value) (σ : dS), den mX6_text 46 [l0, l1, l2] st σ = den mX6_text 47 [l0, l1, l2] (.int (nI 0) :: st) σ) ∧
  (∀ (l0 l1 l2 : Option Value) (x : Int32) (q : Nat) (st : List Value) (σ : dS), den mX6_text 47 [l0, l1, l2] (.int x :: .ref q :: st) σ = if x = 0 ∨ x = 1 then ((dput σ q 5 8 (.int x)).bind fun τ => den mX6_text 50 [l0, l1, l2] st τ) else none) ∧
  (∀ (l0 l1 l2 : Option Value) (st : List Value) (σ : dS), den mX6_text 50 [l0, l1, l2] st σ = den mX6_text 51 [l0, l1, l2] (.int (nI 0) :: st) σ) ∧
  (∀ (l0 l2 : Option Value) (x : Int32) (y : Int32) (st : List Value) (σ : dS), den mX6_text 51 [l0, some (.int y), l2] (.int x :: st) σ = den mX6_text 52 [l0, some (.int y), some (.int x)] st σ) ∧
  (∀ (l0 l1 l2 : Option Value) (st : List Value) (σ : dS), den mX6_text 53 [l0, l1, l2] st σ = den mX6_text 54 [l0, l1, l2] (.int (nI 2) :: st) σ) ∧
  (∀ (l0 l1 l2 : Option Value) (x y : Int32) (st : List Value) (σ : dS), den mX6_text 54 [l0, l1, l2] (.int y :: .int x :: st) σ = if x < y then den mX6_text 57 [l0, l1, l2] st σ else den mX6_text 70 [l0, l1, l2] st σ) ∧
  (∀ (l1 l2 : Option Value) (x : Nat) (st : List Value) (σ : dS), den mX6_text 57 [some (.ref x), l1, l2] st σ = den mX6_text 58 [some (.ref x), l1, l2] (.ref x :: st) σ) ∧
  (∀ (l0 l1 l2 : Option Value) (q : Nat) (st : List Value) (σ : dS), den mX6_text 58 [l0, l1, l2] (.ref q :: st) σ = (dget σ q 5 3).bind fun v => den mX6_text 61 [l0, l1, l2] (v :: st) σ) ∧
  (∀ (l0 l1 : Option Value) (x : Int32) (st : List Value) (σ : dS), den mX6_text 61 [l0, l1, some (.int x)] st σ = den mX6_text 62 [l0, l1, some (.int x)] (.int x :: st) σ) ∧
  (∀ (l0 l1 l2 : Option Value) (st : List Value) (σ : dS), den mX6_text 62 [l0, l1, l2] st σ = den mX6_text 63 [l0, l1, l2] (.int (nI 0) :: st) σ) ∧
  (∀ (l0 l1 l2 : Option Value) (q : Nat) (i x : Int32) (st : List Value) (σ : dS), den mX6_text 63 [l0, l1, l2] (.int x :: .int i :: .ref q :: st) σ = (dbst σ q i x).bind fun τ => den mX6_text 64 [l0, l1, l2] st τ) ∧
  (∀ (l0 : Option Value) (x : Int32) (y : Int32) (st : List Value) (σ : dS), den mX6_text 64 [l0, some (.int y), some (.int x)] st σ = den mX6_text 67 [l0, some (.int y), some (.int (x + nI 1))] st σ) ∧
  (∀ (l0 l1 l2 : Option Value) (st : List Value) (σ : dS), den mX6_text 67 [l0, l1, l2] st σ = den mX6_text 52 [l0, l1, l2] st σ) ∧
  (∀ (l1 l2 : Option Value) (x : Nat) (st : List Value) (σ : dS), den mX6_text 70 [some (.ref x), l1, l2] st σ = den mX6_text 71 [some (.ref x), l1, l2] (.ref x :: st) σ) ∧
  (∀ (l0 l1 l2 : Option Value) (q : Nat) (st : List Value) (σ : dS), den mX6_text 71 [l0, l1, l2] (.ref q :: st) σ = (dget σ q 5 1).bind fun v => den mX6_text 74 [l0, l1, l2] (v :: st) σ) ∧
  (∀ (l0 l1 l2 : Option Value) (q : Nat) (st : List Value) (σ : dS), den mX6_text 74 [l0, l1, l2] (.ref q :: st) σ = (dget σ q 2 7).bind fun v => den mX6_text 77 [l0, l1, l2] (v :: st) σ) ∧
  (∀ (l0 l1 l2 : Option Value) (v : Int32) (σ : dS), den mX6_text 77 [l0, l1, l2] [.int v] σ = some (some (.int v), σ)) :=
  ⟨fun l1 l2 x st σ => dn_aload_n eX6_text dX6_text_0 rfl,
  fun l0 l1 l2 q st σ => dn_getfield (f := (5, 0, 259)) eX6_text dX6_text_1 (by decide +kernel),
  fun l0 l1 l2 q σ => rX6_text_4 l0 l1 l2 q σ,
  fun l1 l2 x y st σ => dn_istore_n eX6_text dX6_text_7 rfl,
  fun l1 l2 x st σ => dn_aload_n eX6_text dX6_text_8 rfl,
  fun l0 l1 l2 q st σ => dn_getfield (f := (5, 0, 259)) eX6_text dX6_text_9 (by decide +kernel),
  fun l0 l1 l2 st σ => dn_iconst eX6_text dX6_text_12 kc_iconst_0,
  fun l0 l1 l2 x q st σ => dn_putfield (f := (4, 3, 149)) (ty := .int) eX6_text dX6_text_13 (by decide +kernel) (by decide +kernel) rfl,
  fun l0 l2 x st σ => dn_iload_n eX6_text dX6_text_16 rfl,
  fun l0 l1 l2 x st σ => dn_if_ne eX6_text dX6_text_17 (by decide),
  fun l0 l1 l2 st σ => dn_bipush eX6_text dX6_text_20 kc_bipush_m10,
  fun l1 l2 x st σ => dn_aload_n eX6_text dX6_text_22 rfl,
  fun l0 l1 l2 q st σ => dn_getfield (f := (5, 0, 259)) eX6_text dX6_text_23 (by decide +kernel),
  fun l0 l1 l2 q st σ => dn_getfield (f := (4, 9, 157)) eX6_text dX6_text_26 (by decide +kernel),
  fun l0 l1 l2 x y st σ => dn_isub eX6_text dX6_text_29,
  fun l0 l1 l2 v σ => dn_ireturn eX6_text dX6_text_30 rfl,
  fun l1 l2 x st σ => dn_aload_n eX6_text dX6_text_31 rfl,
  fun l0 l1 l2 q st σ => dn_getfield (f := (5, 1, 260)) eX6_text dX6_text_32 (by decide +kernel),
  fun l1 l2 x st σ => dn_aload_n eX6_text dX6_text_35 rfl,
  fun l0 l1 l2 q st σ => dn_getfield (f := (5, 0, 259)) eX6_text dX6_text_36 (by decide +kernel),
  fun l0 l1 l2 q st σ => dn_getfield (f := (4, 0, 145)) eX6_text dX6_text_39 (by decide +kernel),
  fun l0 l1 l2 a0 q σ => rX6_text_42 l0 l1 l2 a0 q σ,
  fun l1 l2 x st σ => dn_aload_n eX6_text dX6_text_45 rfl,
  fun l0 l1 l2 st σ => dn_iconst eX6_text dX6_text_46 kc_iconst_0,
  fun l0 l1 l2 x q st σ => dn_putfieldZ (f := (5, 8, 267)) eX6_text dX6_text_47 (by decide +kernel) (by decide +kernel),
  fun l0 l1 l2 st σ => dn_iconst eX6_text dX6_text_50 kc_iconst_0,
  fun l0 l2 x y st σ => dn_istore_n eX6_text dX6_text_51 rfl,
  fun l0 l1 l2 st σ => dn_iconst eX6_text dX6_text_53 kc_iconst_2,
  fun l0 l1 l2 x y st σ => dn_icmp_ge eX6_text dX6_text_54 (by decide),
  fun l1 l2 x st σ => dn_aload_n eX6_text dX6_text_57 rfl,
  fun l0 l1 l2 q st σ => dn_getfield (f := (5, 3, 262)) eX6_text dX6_text_58 (by decide +kernel),
  fun l0 l1 x st σ => dn_iload_n eX6_text dX6_text_61 rfl,
  fun l0 l1 l2 st σ => dn_iconst eX6_text dX6_text_62 kc_iconst_0,
  fun l0 l1 l2 q i x st σ => dn_bastore eX6_text dX6_text_63,
  fun l0 x y st σ => dn_iinc (v := nI 1) eX6_text dX6_text_64 rfl kc_iconst_1 rfl,
  fun l0 l1 l2 st σ => dn_goto eX6_text dX6_text_67 (by decide),
  fun l1 l2 x st σ => dn_aload_n eX6_text dX6_text_70 rfl,
  fun l0 l1 l2 q st σ => dn_getfield (f := (5, 1, 260)) eX6_text dX6_text_71 (by decide +kernel),
  fun l0 l1 l2 q st σ => dn_getfield (f := (2, 7, 112)) eX6_text dX6_text_74 (by decide +kernel),
  fun l0 l1 l2 v σ => dn_ireturn eX6_text dX6_text_77 rfl⟩
theorem CX6_fault (a0 : Nat) (σ : dS) : dcall mX6_fault [.ref a0] σ = den mX6_fault 0 [some (.ref a0)] [] σ := dcall_den (by decide) rfl
set_option maxRecDepth 20000 in
theorem SX6_fault : (∀ (x : Nat) (st : List Value) (σ : dS), den mX6_fault 0 [some (.ref x)] st σ = den mX6_fault 1 [some (.ref x)] (.ref x :: st) σ) ∧
  (∀ (l0 : Option Value) (q : Nat) (st : List Value) (σ : dS), den mX6_fault 1 [l0] (.ref q :: st) σ = (dget σ q 5 0).bind fun v => den mX6_fault 4 [l0] (v :: st) σ) ∧
  (∀ (l0 : Option Value) (q : Nat) (st : List Value) (σ : dS), den mX6_fault 4 [l0] (.ref q :: st) σ = (dget σ q 4 8).bind fun v => den mX6_fault 7 [l0] (v :: st) σ) ∧
  (∀ (l0 : Option Value) (v : Int32) (σ : dS), den mX6_fault 7 [l0] [.int v] σ = some (some (.int v), σ)) :=
  ⟨fun x st σ => dn_aload_n eX6_fault dX6_fault_0 rfl,
  fun l0 q st σ => dn_getfield (f := (5, 0, 259)) eX6_fault dX6_fault_1 (by decide +kernel),
  fun l0 q st σ => dn_getfield (f := (4, 8, 156)) eX6_fault dX6_fault_4 (by decide +kernel),
  fun l0 v σ => dn_ireturn eX6_fault dX6_fault_7 rfl⟩
theorem CX6_measured (a0 : Nat) (σ : dS) : dcall mX6_measured [.ref a0] σ = den mX6_measured 0 [some (.ref a0)] [] σ := dcall_den (by decide) rfl
theorem rX6_measured_8 (l0 : Option Value) (a0 : Nat) (q : Nat) (σ : dS) : den mX6_measured 8 [l0] [.ref a0, .ref q] σ = if disO σ q 0 = true then ((dcall mX0_measure [.ref q, .ref a0] σ).bind fun r => den mX6_measured 11 [l0] (r.1.toList ++ []) r.2) else none := by
  by_cases h : disO σ q 0 = true
  · rw [if_pos h]; exact dn_callV (e := (0, 8, 461)) (as := [.ref a0]) (rest := []) eX6_measured dX6_measured_8 (by decide +kernel) rfl (by decide +kernel) rfl (dcat_le rfl) (dlen_le rfl) rfl h
  · rw [if_neg h]; exact den_noV (e := (0, 8, 461)) (as := [.ref a0]) (rest := []) eX6_measured dX6_measured_8 (by decide +kernel) rfl rfl rfl h
set_option maxRecDepth 20000 in
theorem SX6_measured : (∀ (x : Nat) (st : List Value) (σ : dS), den mX6_measured 0 [some (.ref x)] st σ = den mX6_measured 1 [some (.ref x)] (.ref x :: st) σ) ∧
  (∀ (l0 : Option Value) (q : Nat) (st : List Value) (σ : dS), den mX6_measured 1 [l0] (.ref q :: st) σ = (dget σ q 5 4).bind fun v => den mX6_measured 4 [l0] (v :: st) σ) ∧
  (∀ (x : Nat) (st : List Value) (σ : dS), den mX6_measured 4 [some (.ref x)] st σ = den mX6_measured 5 [some (.ref x)] (.ref x :: st) σ) ∧
  (∀ (l0 : Option Value) (q : Nat) (st : List Value) (σ : dS), den mX6_measured 5 [l0] (.ref q :: st) σ = (dget σ q 5 1).bind fun v => den mX6_measured 8 [l0] (v :: st) σ) ∧
  (∀ (l0 : Option Value) (a0 : Nat) (q : Nat) (σ : dS), den mX6_measured 8 [l0] [.ref a0, .ref q] σ = if disO σ q 0 = true then ((dcall mX0_measure [.ref q, .ref a0] σ).bind fun r => den mX6_measured 11 [l0] (r.1.toList ++ []) r.2) else none) ∧
  (∀ (x : Nat) (st : List Value) (σ : dS), den mX6_measured 11 [some (.ref x)] st σ = den mX6_measured 12 [some (.ref x)] (.ref x :: st) σ) ∧
  (∀ (l0 : Option Value) (q : Nat) (st : List Value) (σ : dS), den mX6_measured 12 [l0] (.ref q :: st) σ = (dget σ q 5 4).bind fun v => den mX6_measured 15 [l0] (v :: st) σ) ∧
  (∀ (l0 : Option Value) (q : Nat) (σ : dS), den mX6_measured 15 [l0] [.ref q] σ = some (some (.ref q), σ)) :=
  ⟨fun x st σ => dn_aload_n eX6_measured dX6_measured_0 rfl,
  fun l0 q st σ => dn_getfield (f := (5, 4, 263)) eX6_measured dX6_measured_1 (by decide +kernel),
  fun x st σ => dn_aload_n eX6_measured dX6_measured_4 rfl,
  fun l0 q st σ => dn_getfield (f := (5, 1, 260)) eX6_measured dX6_measured_5 (by decide +kernel),
  fun l0 a0 q σ => rX6_measured_8 l0 a0 q σ,
  fun x st σ => dn_aload_n eX6_measured dX6_measured_11 rfl,
  fun l0 q st σ => dn_getfield (f := (5, 4, 263)) eX6_measured dX6_measured_12 (by decide +kernel),
  fun l0 q σ => dn_areturn eX6_measured dX6_measured_15 rfl⟩
theorem CX6_rule (a0 : Nat) (a1 : Int32) (σ : dS) : dcall mX6_rule [.ref a0, .int a1] σ = den mX6_rule 0 [some (.ref a0), some (.int a1)] [] σ := dcall_den (by decide) rfl
theorem rX6_rule_1 (l0 l1 : Option Value) (x : Int32) (st : List Value) (σ : dS) : den mX6_rule 1 [l0, l1] (.int x :: st) σ = if x = nI 0 then den mX6_rule 40 [l0, l1] st σ else if x = nI 1 then den mX6_rule 48 [l0, l1] st σ else if x = nI 2 then den mX6_rule 56 [l0, l1] st σ else if x = nI 3 then den mX6_rule 64 [l0, l1] st σ else if x = nI 4 then den mX6_rule 72 [l0, l1] st σ else if x = nI 5 then den mX6_rule 84 [l0, l1] st σ else den mX6_rule 94 [l0, l1] st σ := by
  by_cases h0 : x = nI 0
  · rw [if_pos h0, h0]; exact dn_swIn (off := 39) eX6_rule dX6_rule_1 (by decide +kernel) (by decide +kernel) (by decide)
  rw [if_neg h0]
  by_cases h1 : x = nI 1
  · rw [if_pos h1, h1]; exact dn_swIn (off := 47) eX6_rule dX6_rule_1 (by decide +kernel) (by decide +kernel) (by decide)
  rw [if_neg h1]
  by_cases h2 : x = nI 2
  · rw [if_pos h2, h2]; exact dn_swIn (off := 55) eX6_rule dX6_rule_1 (by decide +kernel) (by decide +kernel) (by decide)
  rw [if_neg h2]
  by_cases h3 : x = nI 3
  · rw [if_pos h3, h3]; exact dn_swIn (off := 63) eX6_rule dX6_rule_1 (by decide +kernel) (by decide +kernel) (by decide)
  rw [if_neg h3]
  by_cases h4 : x = nI 4
  · rw [if_pos h4, h4]; exact dn_swIn (off := 71) eX6_rule dX6_rule_1 (by decide +kernel) (by decide +kernel) (by decide)
  rw [if_neg h4]
  by_cases h5 : x = nI 5
  · rw [if_pos h5, h5]; exact dn_swIn (off := 83) eX6_rule dX6_rule_1 (by decide +kernel) (by decide +kernel) (by decide)
  rw [if_neg h5]
  refine dn_swOut eX6_rule dX6_rule_1 (by decide) ?_
  have g : x.toInt ≠ 0 ∧ x.toInt ≠ 1 ∧ x.toInt ≠ 2 ∧ x.toInt ≠ 3 ∧ x.toInt ≠ 4 ∧ x.toInt ≠ 5 := ⟨sw_ne h0, sw_ne h1, sw_ne h2, sw_ne h3, sw_ne h4, sw_ne h5⟩
  omega
theorem rX6_rule_60 (l0 l1 : Option Value) (q : Nat) (σ : dS) : den mX6_rule 60 [l0, l1] [.ref q] σ = if disO σ q 2 = true then ((dcall mX3_greatestDepth [.ref q] σ).bind fun r => den mX6_rule 63 [l0, l1] (r.1.toList ++ []) r.2) else none := by
  by_cases h : disO σ q 2 = true
  · rw [if_pos h]; exact dn_callV (e := (0, 37, 434)) (as := []) (rest := []) eX6_rule dX6_rule_60 (by decide +kernel) rfl (by decide +kernel) rfl (dcat_le rfl) (dlen_le rfl) rfl h
  · rw [if_neg h]; exact den_noV (e := (0, 37, 434)) (as := []) (rest := []) eX6_rule dX6_rule_60 (by decide +kernel) rfl rfl rfl h
theorem rX6_rule_73 (l0 l1 : Option Value) (q : Nat) (σ : dS) : den mX6_rule 73 [l0, l1] [.ref q] σ = if disO σ q 5 = true then ((dcall mX6_measured [.ref q] σ).bind fun r => den mX6_rule 76 [l0, l1] (r.1.toList ++ []) r.2) else none := by
  by_cases h : disO σ q 5 = true
  · rw [if_pos h]; exact dn_callV (e := (0, 72, 457)) (as := []) (rest := []) eX6_rule dX6_rule_73 (by decide +kernel) rfl (by decide +kernel) rfl (dcat_le rfl) (dlen_le rfl) rfl h
  · rw [if_neg h]; exact den_noV (e := (0, 72, 457)) (as := []) (rest := []) eX6_rule dX6_rule_73 (by decide +kernel) rfl rfl rfl h
theorem rX6_rule_80 (l0 l1 : Option Value) (a0 : Nat) (q : Nat) (σ : dS) : den mX6_rule 80 [l0, l1] [.ref a0, .ref q] σ = if disO σ q 0 = true then ((dcall mX0_guardedIfs [.ref q, .ref a0] σ).bind fun r => den mX6_rule 83 [l0, l1] (r.1.toList ++ []) r.2) else none := by
  by_cases h : disO σ q 0 = true
  · rw [if_pos h]; exact dn_callV (e := (0, 10, 483)) (as := [.ref a0]) (rest := []) eX6_rule dX6_rule_80 (by decide +kernel) rfl (by decide +kernel) rfl (dcat_le rfl) (dlen_le rfl) rfl h
  · rw [if_neg h]; exact den_noV (e := (0, 10, 483)) (as := [.ref a0]) (rest := []) eX6_rule dX6_rule_80 (by decide +kernel) rfl rfl rfl h
theorem rX6_rule_85 (l0 l1 : Option Value) (q : Nat) (σ : dS) : den mX6_rule 85 [l0, l1] [.ref q] σ = if disO σ q 5 = true then ((dcall mX6_measured [.ref q] σ).bind fun r => den mX6_rule 88 [l0, l1] (r.1.toList ++ []) r.2) else none := by
  by_cases h : disO σ q 5 = true
  · rw [if_pos h]; exact dn_callV (e := (0, 72, 457)) (as := []) (rest := []) eX6_rule dX6_rule_85 (by decide +kernel) rfl (by decide +kernel) rfl (dcat_le rfl) (dlen_le rfl) rfl h
  · rw [if_neg h]; exact den_noV (e := (0, 72, 457)) (as := []) (rest := []) eX6_rule dX6_rule_85 (by decide +kernel) rfl rfl rfl h
set_option maxRecDepth 20000 in
theorem SX6_rule : (∀ (l0 : Option Value) (x : Int32) (st : List Value) (σ : dS), den mX6_rule 0 [l0, some (.int x)] st σ = den mX6_rule 1 [l0, some (.int x)] (.int x :: st) σ) ∧
  (∀ (l0 l1 : Option Value) (x : Int32) (st : List Value) (σ : dS), den mX6_rule 1 [l0, l1] (.int x :: st) σ = if x = nI 0 then den mX6_rule 40 [l0, l1] st σ else if x = nI 1 then den mX6_rule 48 [l0, l1] st σ else if x = nI 2 then den mX6_rule 56 [l0, l1] st σ else if x = nI 3 then den mX6_rule 64 [l0, l1] st σ else if x = nI 4 then den mX6_rule 72 [l0, l1] st σ else if x = nI 5 then den mX6_rule 84 [l0, l1] st σ else den mX6_rule 94 [l0, l1] st σ) ∧
  (∀ (l1 : Option Value) (x : Nat) (st : List Value) (σ : dS), den mX6_rule 40 [some (.ref x), l1] st σ = den mX6_rule 41 [some (.ref x), l1] (.ref x :: st) σ) ∧
  (∀ (l0 l1 : Option Value) (q : Nat) (st : List Value) (σ : dS), den mX6_rule 41 [l0, l1] (.ref q :: st) σ = (dget σ q 5 1).bind fun v => den mX6_rule 44 [l0, l1] (v :: st) σ) ∧
  (∀ (l0 l1 : Option Value) (q : Nat) (st : List Value) (σ : dS), den mX6_rule 44 [l0, l1] (.ref q :: st) σ = (dget σ q 2 7).bind fun v => den mX6_rule 47 [l0, l1] (v :: st) σ) ∧
  (∀ (l0 l1 : Option Value) (v : Int32) (σ : dS), den mX6_rule 47 [l0, l1] [.int v] σ = some (some (.int v), σ)) ∧
  (∀ (l1 : Option Value) (x : Nat) (st : List Value) (σ : dS), den mX6_rule 48 [some (.ref x), l1] st σ = den mX6_rule 49 [some (.ref x), l1] (.ref x :: st) σ) ∧
  (∀ (l0 l1 : Option Value) (q : Nat) (st : List Value) (σ : dS), den mX6_rule 49 [l0, l1] (.ref q :: st) σ = (dget σ q 5 1).bind fun v => den mX6_rule 52 [l0, l1] (v :: st) σ) ∧
  (∀ (l0 l1 : Option Value) (q : Nat) (st : List Value) (σ : dS), den mX6_rule 52 [l0, l1] (.ref q :: st) σ = (dget σ q 2 8).bind fun v => den mX6_rule 55 [l0, l1] (v :: st) σ) ∧
  (∀ (l0 l1 : Option Value) (v : Int32) (σ : dS), den mX6_rule 55 [l0, l1] [.int v] σ = some (some (.int v), σ)) ∧
  (∀ (l1 : Option Value) (x : Nat) (st : List Value) (σ : dS), den mX6_rule 56 [some (.ref x), l1] st σ = den mX6_rule 57 [some (.ref x), l1] (.ref x :: st) σ) ∧
  (∀ (l0 l1 : Option Value) (q : Nat) (st : List Value) (σ : dS), den mX6_rule 57 [l0, l1] (.ref q :: st) σ = (dget σ q 5 1).bind fun v => den mX6_rule 60 [l0, l1] (v :: st) σ) ∧
  (∀ (l0 l1 : Option Value) (q : Nat) (σ : dS), den mX6_rule 60 [l0, l1] [.ref q] σ = if disO σ q 2 = true then ((dcall mX3_greatestDepth [.ref q] σ).bind fun r => den mX6_rule 63 [l0, l1] (r.1.toList ++ []) r.2) else none) ∧
  (∀ (l0 l1 : Option Value) (v : Int32) (σ : dS), den mX6_rule 63 [l0, l1] [.int v] σ = some (some (.int v), σ)) ∧
  (∀ (l1 : Option Value) (x : Nat) (st : List Value) (σ : dS), den mX6_rule 64 [some (.ref x), l1] st σ = den mX6_rule 65 [some (.ref x), l1] (.ref x :: st) σ) ∧
  (∀ (l0 l1 : Option Value) (q : Nat) (st : List Value) (σ : dS), den mX6_rule 65 [l0, l1] (.ref q :: st) σ = (dget σ q 5 1).bind fun v => den mX6_rule 68 [l0, l1] (v :: st) σ) ∧
  (∀ (l0 l1 : Option Value) (q : Nat) (st : List Value) (σ : dS), den mX6_rule 68 [l0, l1] (.ref q :: st) σ = (dget σ q 2 9).bind fun v => den mX6_rule 71 [l0, l1] (v :: st) σ) ∧
  (∀ (l0 l1 : Option Value) (v : Int32) (σ : dS), den mX6_rule 71 [l0, l1] [.int v] σ = some (some (.int v), σ)) ∧
  (∀ (l1 : Option Value) (x : Nat) (st : List Value) (σ : dS), den mX6_rule 72 [some (.ref x), l1] st σ = den mX6_rule 73 [some (.ref x), l1] (.ref x :: st) σ) ∧
  (∀ (l0 l1 : Option Value) (q : Nat) (σ : dS), den mX6_rule 73 [l0, l1] [.ref q] σ = if disO σ q 5 = true then ((dcall mX6_measured [.ref q] σ).bind fun r => den mX6_rule 76 [l0, l1] (r.1.toList ++ []) r.2) else none) ∧
  (∀ (l1 : Option Value) (x : Nat) (st : List Value) (σ : dS), den mX6_rule 76 [some (.ref x), l1] st σ = den mX6_rule 77 [some (.ref x), l1] (.ref x :: st) σ) ∧
  (∀ (l0 l1 : Option Value) (q : Nat) (st : List Value) (σ : dS), den mX6_rule 77 [l0, l1] (.ref q :: st) σ = (dget σ q 5 1).bind fun v => den mX6_rule 80 [l0, l1] (v :: st) σ) ∧
  (∀ (l0 l1 : Option Value) (a0 : Nat) (q : Nat) (σ : dS), den mX6_rule 80 [l0, l1] [.ref a0, .ref q] σ = if disO σ q 0 = true then ((dcall mX0_guardedIfs [.ref q, .ref a0] σ).bind fun r => den mX6_rule 83 [l0, l1] (r.1.toList ++ []) r.2) else none) ∧
  (∀ (l0 l1 : Option Value) (v : Int32) (σ : dS), den mX6_rule 83 [l0, l1] [.int v] σ = some (some (.int v), σ)) ∧
  (∀ (l1 : Option Value) (x : Nat) (st : List Value) (σ : dS), den mX6_rule 84 [some (.ref x), l1] st σ = den mX6_rule 85 [some (.ref x), l1] (.ref x :: st) σ) ∧
  (∀ (l0 l1 : Option Value) (q : Nat) (σ : dS), den mX6_rule 85 [l0, l1] [.ref q] σ = if disO σ q 5 = true then ((dcall mX6_measured [.ref q] σ).bind fun r => den mX6_rule 88 [l0, l1] (r.1.toList ++ []) r.2) else none) ∧
  (∀ (l0 l1 : Option Value) (q : Nat) (st : List Value) (σ : dS), den mX6_rule 88 [l0, l1] (.ref q :: st) σ = (dget σ q 0 1).bind fun v => den mX6_rule 91 [l0, l1] (v :: st) σ) ∧
  (∀ (l0 l1 : Option Value) (st : List Value) (σ : dS), den mX6_rule 91 [l0, l1] st σ = den mX6_rule 92 [l0, l1] (.int (nI 0) :: st) σ) ∧
  (∀ (l0 l1 : Option Value) (q : Nat) (i : Int32) (st : List Value) (σ : dS), den mX6_rule 92 [l0, l1] (.int i :: .ref q :: st) σ = if q ≤ dN then (dald σ q 0 i).bind (fun v => den mX6_rule 93 [l0, l1] (.int v :: st) σ) else none) ∧
  (∀ (l0 l1 : Option Value) (v : Int32) (σ : dS), den mX6_rule 93 [l0, l1] [.int v] σ = some (some (.int v), σ)) ∧
  (∀ (l0 l1 : Option Value) (st : List Value) (σ : dS), den mX6_rule 94 [l0, l1] st σ = den mX6_rule 95 [l0, l1] (.int ((-1)) :: st) σ) ∧
  (∀ (l0 l1 : Option Value) (v : Int32) (σ : dS), den mX6_rule 95 [l0, l1] [.int v] σ = some (some (.int v), σ)) :=
  ⟨fun l0 x st σ => dn_iload_n eX6_rule dX6_rule_0 rfl,
  fun l0 l1 x st σ => rX6_rule_1 l0 l1 x st σ,
  fun l1 x st σ => dn_aload_n eX6_rule dX6_rule_40 rfl,
  fun l0 l1 q st σ => dn_getfield (f := (5, 1, 260)) eX6_rule dX6_rule_41 (by decide +kernel),
  fun l0 l1 q st σ => dn_getfield (f := (2, 7, 112)) eX6_rule dX6_rule_44 (by decide +kernel),
  fun l0 l1 v σ => dn_ireturn eX6_rule dX6_rule_47 rfl,
  fun l1 x st σ => dn_aload_n eX6_rule dX6_rule_48 rfl,
  fun l0 l1 q st σ => dn_getfield (f := (5, 1, 260)) eX6_rule dX6_rule_49 (by decide +kernel),
  fun l0 l1 q st σ => dn_getfield (f := (2, 8, 118)) eX6_rule dX6_rule_52 (by decide +kernel),
  fun l0 l1 v σ => dn_ireturn eX6_rule dX6_rule_55 rfl,
  fun l1 x st σ => dn_aload_n eX6_rule dX6_rule_56 rfl,
  fun l0 l1 q st σ => dn_getfield (f := (5, 1, 260)) eX6_rule dX6_rule_57 (by decide +kernel),
  fun l0 l1 q σ => rX6_rule_60 l0 l1 q σ,
  fun l0 l1 v σ => dn_ireturn eX6_rule dX6_rule_63 rfl,
  fun l1 x st σ => dn_aload_n eX6_rule dX6_rule_64 rfl,
  fun l0 l1 q st σ => dn_getfield (f := (5, 1, 260)) eX6_rule dX6_rule_65 (by decide +kernel),
  fun l0 l1 q st σ => dn_getfield (f := (2, 9, 120)) eX6_rule dX6_rule_68 (by decide +kernel),
  fun l0 l1 v σ => dn_ireturn eX6_rule dX6_rule_71 rfl,
  fun l1 x st σ => dn_aload_n eX6_rule dX6_rule_72 rfl,
  fun l0 l1 q σ => rX6_rule_73 l0 l1 q σ,
  fun l1 x st σ => dn_aload_n eX6_rule dX6_rule_76 rfl,
  fun l0 l1 q st σ => dn_getfield (f := (5, 1, 260)) eX6_rule dX6_rule_77 (by decide +kernel),
  fun l0 l1 a0 q σ => rX6_rule_80 l0 l1 a0 q σ,
  fun l0 l1 v σ => dn_ireturn eX6_rule dX6_rule_83 rfl,
  fun l1 x st σ => dn_aload_n eX6_rule dX6_rule_84 rfl,
  fun l0 l1 q σ => rX6_rule_85 l0 l1 q σ,
  fun l0 l1 q st σ => dn_getfield (f := (0, 1, 194)) eX6_rule dX6_rule_88 (by decide +kernel),
  fun l0 l1 st σ => dn_iconst eX6_rule dX6_rule_91 kc_iconst_0,
  fun l0 l1 q i st σ => dn_iaload eX6_rule dX6_rule_92,
  fun l0 l1 v σ => dn_ireturn eX6_rule dX6_rule_93 rfl,
  fun l0 l1 st σ => dn_iconst eX6_rule dX6_rule_94 kc_iconst_m1,
  fun l0 l1 v σ => dn_ireturn eX6_rule dX6_rule_95 rfl⟩
theorem CX6_code (a0 : Nat) (a1 : Int32) (a2 : Int32) (σ : dS) : dcall mX6_code [.ref a0, .int a1, .int a2] σ = den mX6_code 0 [some (.ref a0), some (.int a1), some (.int a2)] [] σ := dcall_den (by decide) rfl
theorem rX6_code_5 (l0 l1 l2 : Option Value) (a0 : Int32) (q : Nat) (σ : dS) : den mX6_code 5 [l0, l1, l2] [.int a0, .ref q] σ = if disO σ q 2 = true then ((dcall mX3_hasInstruction [.ref q, .int a0] σ).bind fun r => den mX6_code 8 [l0, l1, l2] (r.1.toList ++ []) r.2) else none := by
  by_cases h : disO σ q 2 = true
  · rw [if_pos h]; exact dn_callV (e := (0, 28, 494)) (as := [.int a0]) (rest := []) eX6_code dX6_code_5 (by decide +kernel) rfl (by decide +kernel) rfl (dcat_le rfl) (dlen_le rfl) rfl h
  · rw [if_neg h]; exact den_noV (e := (0, 28, 494)) (as := [.int a0]) (rest := []) eX6_code dX6_code_5 (by decide +kernel) rfl rfl rfl h
theorem rX6_code_14 (l0 l1 l2 : Option Value) (x : Int32) (st : List Value) (σ : dS) : den mX6_code 14 [l0, l1, l2] (.int x :: st) σ = if x = nI 0 then den mX6_code 56 [l0, l1, l2] st σ else if x = nI 1 then den mX6_code 66 [l0, l1, l2] st σ else if x = nI 2 then den mX6_code 76 [l0, l1, l2] st σ else if x = nI 3 then den mX6_code 86 [l0, l1, l2] st σ else if x = nI 4 then den mX6_code 112 [l0, l1, l2] st σ else if x = nI 5 then den mX6_code 122 [l0, l1, l2] st σ else if x = nI 6 then den mX6_code 132 [l0, l1, l2] st σ else den mX6_code 141 [l0, l1, l2] st σ := by
  by_cases h0 : x = nI 0
  · rw [if_pos h0, h0]; exact dn_swIn (off := 42) eX6_code dX6_code_14 (by decide +kernel) (by decide +kernel) (by decide)
  rw [if_neg h0]
  by_cases h1 : x = nI 1
  · rw [if_pos h1, h1]; exact dn_swIn (off := 52) eX6_code dX6_code_14 (by decide +kernel) (by decide +kernel) (by decide)
  rw [if_neg h1]
  by_cases h2 : x = nI 2
  · rw [if_pos h2, h2]; exact dn_swIn (off := 62) eX6_code dX6_code_14 (by decide +kernel) (by decide +kernel) (by decide)
  rw [if_neg h2]
  by_cases h3 : x = nI 3
  · rw [if_pos h3, h3]; exact dn_swIn (off := 72) eX6_code dX6_code_14 (by decide +kernel) (by decide +kernel) (by decide)
  rw [if_neg h3]
  by_cases h4 : x = nI 4
  · rw [if_pos h4, h4]; exact dn_swIn (off := 98) eX6_code dX6_code_14 (by decide +kernel) (by decide +kernel) (by decide)
  rw [if_neg h4]
  by_cases h5 : x = nI 5
  · rw [if_pos h5, h5]; exact dn_swIn (off := 108) eX6_code dX6_code_14 (by decide +kernel) (by decide +kernel) (by decide)
  rw [if_neg h5]
  by_cases h6 : x = nI 6
  · rw [if_pos h6, h6]; exact dn_swIn (off := 118) eX6_code dX6_code_14 (by decide +kernel) (by decide +kernel) (by decide)
  rw [if_neg h6]
  refine dn_swOut eX6_code dX6_code_14 (by decide) ?_
  have g : x.toInt ≠ 0 ∧ x.toInt ≠ 1 ∧ x.toInt ≠ 2 ∧ x.toInt ≠ 3 ∧ x.toInt ≠ 4 ∧ x.toInt ≠ 5 ∧ x.toInt ≠ 6 := ⟨sw_ne h0, sw_ne h1, sw_ne h2, sw_ne h3, sw_ne h4, sw_ne h5, sw_ne h6⟩
  omega
theorem rX6_code_91 (l0 l1 l2 : Option Value) (a0 : Int32) (q : Nat) (σ : dS) : den mX6_code 91 [l0, l1, l2] [.int a0, .ref q] σ = if disO σ q 2 = true then ((dcall mX3_isCompute [.ref q, .int a0] σ).bind fun r => den mX6_code 94 [l0, l1, l2] (r.1.toList ++ []) r.2) else none := by
  by_cases h : disO σ q 2 = true
  · rw [if_pos h]; exact dn_callV (e := (0, 32, 498)) (as := [.int a0]) (rest := []) eX6_code dX6_code_91 (by decide +kernel) rfl (by decide +kernel) rfl (dcat_le rfl) (dlen_le rfl) rfl h
  · rw [if_neg h]; exact den_noV (e := (0, 32, 498)) (as := [.int a0]) (rest := []) eX6_code dX6_code_91 (by decide +kernel) rfl rfl rfl h
theorem rX6_code_123 (l0 l1 l2 : Option Value) (q : Nat) (σ : dS) : den mX6_code 123 [l0, l1, l2] [.ref q] σ = if disO σ q 5 = true then ((dcall mX6_measured [.ref q] σ).bind fun r => den mX6_code 126 [l0, l1, l2] (r.1.toList ++ []) r.2) else none := by
  by_cases h : disO σ q 5 = true
  · rw [if_pos h]; exact dn_callV (e := (0, 72, 457)) (as := []) (rest := []) eX6_code dX6_code_123 (by decide +kernel) rfl (by decide +kernel) rfl (dcat_le rfl) (dlen_le rfl) rfl h
  · rw [if_neg h]; exact den_noV (e := (0, 72, 457)) (as := []) (rest := []) eX6_code dX6_code_123 (by decide +kernel) rfl rfl rfl h
theorem rX6_code_137 (l0 l1 l2 : Option Value) (a0 : Int32) (q : Nat) (σ : dS) : den mX6_code 137 [l0, l1, l2] [.int a0, .ref q] σ = if disO σ q 2 = true then ((dcall mX3_ifOf [.ref q, .int a0] σ).bind fun r => den mX6_code 140 [l0, l1, l2] (r.1.toList ++ []) r.2) else none := by
  by_cases h : disO σ q 2 = true
  · rw [if_pos h]; exact dn_callV (e := (0, 33, 502)) (as := [.int a0]) (rest := []) eX6_code dX6_code_137 (by decide +kernel) rfl (by decide +kernel) rfl (dcat_le rfl) (dlen_le rfl) rfl h
  · rw [if_neg h]; exact den_noV (e := (0, 33, 502)) (as := [.int a0]) (rest := []) eX6_code dX6_code_137 (by decide +kernel) rfl rfl rfl h
set_option maxRecDepth 20000 in
theorem SX6_code_0 : (∀ (l1 l2 : Option Value) (x : Nat) (st : List Value) (σ : dS), den mX6_code 0 [some (.ref x), l1, l2] st σ = den mX6_code 1 [some (.ref x), l1, l2] (.ref x :: st) σ) ∧
  (∀ (l0 l1 l2 : Option Value) (q : Nat) (st : List Value) (σ : dS), den mX6_code 1 [l0, l1, l2] (.ref q :: st) σ = (dget σ q 5 1).bind fun v => den mX6_code 4 [l0, l1, l2] (v :: st) σ) ∧
  (∀ (l0 l2 : Option Value) (x : Int32) (st : List Value) (σ : dS), den mX6_code 4 [l0, some (.int x), l2] st σ = den mX6_code 5 [l0, some (.int x), l2] (.int x :: st) σ) ∧
  (∀ (l0 l1 l2 : Option Value) (a0 : Int32) (q : Nat) (σ : dS), den mX6_code 5 [l0, l1, l2] [.int a0, .ref q] σ = if disO σ q 2 = true then ((dcall mX3_hasInstruction [.ref q, .int a0] σ).bind fun r => den mX6_code 8 [l0, l1, l2] (r.1.toList ++ []) r.2) else none) ∧
  (∀ (l0 l1 l2 : Option Value) (x : Int32) (st : List Value) (σ : dS), den mX6_code 8 [l0, l1, l2] (.int x :: st) σ = if x = 0 then den mX6_code 11 [l0, l1, l2] st σ else den mX6_code 13 [l0, l1, l2] st σ) ∧
  (∀ (l0 l1 l2 : Option Value) (st : List Value) (σ : dS), den mX6_code 11 [l0, l1, l2] st σ = den mX6_code 12 [l0, l1, l2] (.int ((-1)) :: st) σ) ∧
  (∀ (l0 l1 l2 : Option Value) (v : Int32) (σ : dS), den mX6_code 12 [l0, l1, l2] [.int v] σ = some (some (.int v), σ)) ∧
  (∀ (l0 l1 : Option Value) (x : Int32) (st : List Value) (σ : dS), den mX6_code 13 [l0, l1, some (.int x)] st σ = den mX6_code 14 [l0, l1, some (.int x)] (.int x :: st) σ) ∧
  (∀ (l0 l1 l2 : Option Value) (x : Int32) (st : List Value) (σ : dS), den mX6_code 14 [l0, l1, l2] (.int x :: st) σ = if x = nI 0 then den mX6_code 56 [l0, l1, l2] st σ else if x = nI 1 then den mX6_code 66 [l0, l1, l2] st σ else if x = nI 2 then den mX6_code 76 [l0, l1, l2] st σ else if x = nI 3 then den mX6_code 86 [l0, l1, l2] st σ else if x = nI 4 then den mX6_code 112 [l0, l1, l2] st σ else if x = nI 5 then den mX6_code 122 [l0, l1, l2] st σ else if x = nI 6 then den mX6_code 132 [l0, l1, l2] st σ else den mX6_code 141 [l0, l1, l2] st σ) ∧
  (∀ (l1 l2 : Option Value) (x : Nat) (st : List Value) (σ : dS), den mX6_code 56 [some (.ref x), l1, l2] st σ = den mX6_code 57 [some (.ref x), l1, l2] (.ref x :: st) σ) ∧
  (∀ (l0 l1 l2 : Option Value) (q : Nat) (st : List Value) (σ : dS), den mX6_code 57 [l0, l1, l2] (.ref q :: st) σ = (dget σ q 5 1).bind fun v => den mX6_code 60 [l0, l1, l2] (v :: st) σ) ∧
  (∀ (l0 l1 l2 : Option Value) (q : Nat) (st : List Value) (σ : dS), den mX6_code 60 [l0, l1, l2] (.ref q :: st) σ = (dget σ q 2 0).bind fun v => den mX6_code 63 [l0, l1, l2] (v :: st) σ) ∧
  (∀ (l0 l2 : Option Value) (x : Int32) (st : List Value) (σ : dS), den mX6_code 63 [l0, some (.int x), l2] st σ = den mX6_code 64 [l0, some (.int x), l2] (.int x :: st) σ) ∧
  (∀ (l0 l1 l2 : Option Value) (q : Nat) (i : Int32) (st : List Value) (σ : dS), den mX6_code 64 [l0, l1, l2] (.int i :: .ref q :: st) σ = if q ≤ dN then (dald σ q 0 i).bind (fun v => den mX6_code 65 [l0, l1, l2] (.int v :: st) σ) else none) ∧
  (∀ (l0 l1 l2 : Option Value) (v : Int32) (σ : dS), den mX6_code 65 [l0, l1, l2] [.int v] σ = some (some (.int v), σ)) ∧
  (∀ (l1 l2 : Option Value) (x : Nat) (st : List Value) (σ : dS), den mX6_code 66 [some (.ref x), l1, l2] st σ = den mX6_code 67 [some (.ref x), l1, l2] (.ref x :: st) σ) ∧
  (∀ (l0 l1 l2 : Option Value) (q : Nat) (st : List Value) (σ : dS), den mX6_code 67 [l0, l1, l2] (.ref q :: st) σ = (dget σ q 5 1).bind fun v => den mX6_code 70 [l0, l1, l2] (v :: st) σ) ∧
  (∀ (l0 l1 l2 : Option Value) (q : Nat) (st : List Value) (σ : dS), den mX6_code 70 [l0, l1, l2] (.ref q :: st) σ = (dget σ q 2 1).bind fun v => den mX6_code 73 [l0, l1, l2] (v :: st) σ) ∧
  (∀ (l0 l2 : Option Value) (x : Int32) (st : List Value) (σ : dS), den mX6_code 73 [l0, some (.int x), l2] st σ = den mX6_code 74 [l0, some (.int x), l2] (.int x :: st) σ) ∧
  (∀ (l0 l1 l2 : Option Value) (q : Nat) (i : Int32) (st : List Value) (σ : dS), den mX6_code 74 [l0, l1, l2] (.int i :: .ref q :: st) σ = if q ≤ dN then (dald σ q 0 i).bind (fun v => den mX6_code 75 [l0, l1, l2] (.int v :: st) σ) else none) ∧
  (∀ (l0 l1 l2 : Option Value) (v : Int32) (σ : dS), den mX6_code 75 [l0, l1, l2] [.int v] σ = some (some (.int v), σ)) ∧
  (∀ (l1 l2 : Option Value) (x : Nat) (st : List Value) (σ : dS), den mX6_code 76 [some (.ref x), l1, l2] st σ = den mX6_code 77 [some (.ref x), l1, l2] (.ref x :: st) σ) ∧
  (∀ (l0 l1 l2 : Option Value) (q : Nat) (st : List Value) (σ : dS), den mX6_code 77 [l0, l1, l2] (.ref q :: st) σ = (dget σ q 5 1).bind fun v => den mX6_code 80 [l0, l1, l2] (v :: st) σ) ∧
  (∀ (l0 l1 l2 : Option Value) (q : Nat) (st : List Value) (σ : dS), den mX6_code 80 [l0, l1, l2] (.ref q :: st) σ = (dget σ q 2 2).bind fun v => den mX6_code 83 [l0, l1, l2] (v :: st) σ) ∧
  (∀ (l0 l2 : Option Value) (x : Int32) (st : List Value) (σ : dS), den mX6_code 83 [l0, some (.int x), l2] st σ = den mX6_code 84 [l0, some (.int x), l2] (.int x :: st) σ) ∧
  (∀ (l0 l1 l2 : Option Value) (q : Nat) (i : Int32) (st : List Value) (σ : dS), den mX6_code 84 [l0, l1, l2] (.int i :: .ref q :: st) σ = if q ≤ dN then (dald σ q 0 i).bind (fun v => den mX6_code 85 [l0, l1, l2] (.int v :: st) σ) else none) ∧
  (∀ (l0 l1 l2 : Option Value) (v : Int32) (σ : dS), den mX6_code 85 [l0, l1, l2] [.int v] σ = some (some (.int v), σ)) ∧
  (∀ (l1 l2 : Option Value) (x : Nat) (st : List Value) (σ : dS), den mX6_code 86 [some (.ref x), l1, l2] st σ = den mX6_code 87 [some (.ref x), l1, l2] (.ref x :: st) σ) ∧
  (∀ (l0 l1 l2 : Option Value) (q : Nat) (st : List Value) (σ : dS), den mX6_code 87 [l0, l1, l2] (.ref q :: st) σ = (dget σ q 5 1).bind fun v => den mX6_code 90 [l0, l1, l2] (v :: st) σ) ∧
  (∀ (l0 l2 : Option Value) (x : Int32) (st : List Value) (σ : dS), den mX6_code 90 [l0, some (.int x), l2] st σ = den mX6_code 91 [l0, some (.int x), l2] (.int x :: st) σ) ∧
  (∀ (l0 l1 l2 : Option Value) (a0 : Int32) (q : Nat) (σ : dS), den mX6_code 91 [l0, l1, l2] [.int a0, .ref q] σ = if disO σ q 2 = true then ((dcall mX3_isCompute [.ref q, .int a0] σ).bind fun r => den mX6_code 94 [l0, l1, l2] (r.1.toList ++ []) r.2) else none) ∧
  (∀ (l0 l1 l2 : Option Value) (x : Int32) (st : List Value) (σ : dS), den mX6_code 94 [l0, l1, l2] (.int x :: st) σ = if x = 0 then den mX6_code 109 [l0, l1, l2] st σ else den mX6_code 97 [l0, l1, l2] st σ) ∧
  (∀ (l1 l2 : Option Value) (x : Nat) (st : List Value) (σ : dS), den mX6_code 97 [some (.ref x), l1, l2] st σ = den mX6_code 98 [some (.ref x), l1, l2] (.ref x :: st) σ) ∧
  (∀ (l0 l1 l2 : Option Value) (q : Nat) (st : List Value) (σ : dS), den mX6_code 98 [l0, l1, l2] (.ref q :: st) σ = (dget σ q 5 1).bind fun v => den mX6_code 101 [l0, l1, l2] (v :: st) σ) ∧
  (∀ (l0 l1 l2 : Option Value) (q : Nat) (st : List Value) (σ : dS), den mX6_code 101 [l0, l1, l2] (.ref q :: st) σ = (dget σ q 2 3).bind fun v => den mX6_code 104 [l0, l1, l2] (v :: st) σ) ∧
  (∀ (l0 l2 : Option Value) (x : Int32) (st : List Value) (σ : dS), den mX6_code 104 [l0, some (.int x), l2] st σ = den mX6_code 105 [l0, some (.int x), l2] (.int x :: st) σ) ∧
  (∀ (l0 l1 l2 : Option Value) (q : Nat) (i : Int32) (st : List Value) (σ : dS), den mX6_code 105 [l0, l1, l2] (.int i :: .ref q :: st) σ = if q ≤ dN then (dald σ q 0 i).bind (fun v => den mX6_code 106 [l0, l1, l2] (.int v :: st) σ) else none) ∧
  (∀ (l0 l1 l2 : Option Value) (st : List Value) (σ : dS), den mX6_code 106 [l0, l1, l2] st σ = den mX6_code 111 [l0, l1, l2] st σ) ∧
  (∀ (l0 l1 l2 : Option Value) (st : List Value) (σ : dS), den mX6_code 109 [l0, l1, l2] st σ = den mX6_code 111 [l0, l1, l2] (.int ((-4)) :: st) σ) ∧
  (∀ (l0 l1 l2 : Option Value) (v : Int32) (σ : dS), den mX6_code 111 [l0, l1, l2] [.int v] σ = some (some (.int v), σ)) :=
  ⟨fun l1 l2 x st σ => dn_aload_n eX6_code dX6_code_0 rfl,
  fun l0 l1 l2 q st σ => dn_getfield (f := (5, 1, 260)) eX6_code dX6_code_1 (by decide +kernel),
  fun l0 l2 x st σ => dn_iload_n eX6_code dX6_code_4 rfl,
  fun l0 l1 l2 a0 q σ => rX6_code_5 l0 l1 l2 a0 q σ,
  fun l0 l1 l2 x st σ => dn_if_ne eX6_code dX6_code_8 (by decide),
  fun l0 l1 l2 st σ => dn_iconst eX6_code dX6_code_11 kc_iconst_m1,
  fun l0 l1 l2 v σ => dn_ireturn eX6_code dX6_code_12 rfl,
  fun l0 l1 x st σ => dn_iload_n eX6_code dX6_code_13 rfl,
  fun l0 l1 l2 x st σ => rX6_code_14 l0 l1 l2 x st σ,
  fun l1 l2 x st σ => dn_aload_n eX6_code dX6_code_56 rfl,
  fun l0 l1 l2 q st σ => dn_getfield (f := (5, 1, 260)) eX6_code dX6_code_57 (by decide +kernel),
  fun l0 l1 l2 q st σ => dn_getfield (f := (2, 0, 88)) eX6_code dX6_code_60 (by decide +kernel),
  fun l0 l2 x st σ => dn_iload_n eX6_code dX6_code_63 rfl,
  fun l0 l1 l2 q i st σ => dn_iaload eX6_code dX6_code_64,
  fun l0 l1 l2 v σ => dn_ireturn eX6_code dX6_code_65 rfl,
  fun l1 l2 x st σ => dn_aload_n eX6_code dX6_code_66 rfl,
  fun l0 l1 l2 q st σ => dn_getfield (f := (5, 1, 260)) eX6_code dX6_code_67 (by decide +kernel),
  fun l0 l1 l2 q st σ => dn_getfield (f := (2, 1, 92)) eX6_code dX6_code_70 (by decide +kernel),
  fun l0 l2 x st σ => dn_iload_n eX6_code dX6_code_73 rfl,
  fun l0 l1 l2 q i st σ => dn_iaload eX6_code dX6_code_74,
  fun l0 l1 l2 v σ => dn_ireturn eX6_code dX6_code_75 rfl,
  fun l1 l2 x st σ => dn_aload_n eX6_code dX6_code_76 rfl,
  fun l0 l1 l2 q st σ => dn_getfield (f := (5, 1, 260)) eX6_code dX6_code_77 (by decide +kernel),
  fun l0 l1 l2 q st σ => dn_getfield (f := (2, 2, 96)) eX6_code dX6_code_80 (by decide +kernel),
  fun l0 l2 x st σ => dn_iload_n eX6_code dX6_code_83 rfl,
  fun l0 l1 l2 q i st σ => dn_iaload eX6_code dX6_code_84,
  fun l0 l1 l2 v σ => dn_ireturn eX6_code dX6_code_85 rfl,
  fun l1 l2 x st σ => dn_aload_n eX6_code dX6_code_86 rfl,
  fun l0 l1 l2 q st σ => dn_getfield (f := (5, 1, 260)) eX6_code dX6_code_87 (by decide +kernel),
  fun l0 l2 x st σ => dn_iload_n eX6_code dX6_code_90 rfl,
  fun l0 l1 l2 a0 q σ => rX6_code_91 l0 l1 l2 a0 q σ,
  fun l0 l1 l2 x st σ => dn_if_eq eX6_code dX6_code_94 (by decide),
  fun l1 l2 x st σ => dn_aload_n eX6_code dX6_code_97 rfl,
  fun l0 l1 l2 q st σ => dn_getfield (f := (5, 1, 260)) eX6_code dX6_code_98 (by decide +kernel),
  fun l0 l1 l2 q st σ => dn_getfield (f := (2, 3, 99)) eX6_code dX6_code_101 (by decide +kernel),
  fun l0 l2 x st σ => dn_iload_n eX6_code dX6_code_104 rfl,
  fun l0 l1 l2 q i st σ => dn_iaload eX6_code dX6_code_105,
  fun l0 l1 l2 st σ => dn_goto eX6_code dX6_code_106 (by decide),
  fun l0 l1 l2 st σ => dn_bipush eX6_code dX6_code_109 kc_bipush_m4,
  fun l0 l1 l2 v σ => dn_ireturn eX6_code dX6_code_111 rfl⟩
set_option maxRecDepth 20000 in
theorem SX6_code_1 : (∀ (l1 l2 : Option Value) (x : Nat) (st : List Value) (σ : dS), den mX6_code 112 [some (.ref x), l1, l2] st σ = den mX6_code 113 [some (.ref x), l1, l2] (.ref x :: st) σ) ∧
  (∀ (l0 l1 l2 : Option Value) (q : Nat) (st : List Value) (σ : dS), den mX6_code 113 [l0, l1, l2] (.ref q :: st) σ = (dget σ q 5 1).bind fun v => den mX6_code 116 [l0, l1, l2] (v :: st) σ) ∧
  (∀ (l0 l1 l2 : Option Value) (q : Nat) (st : List Value) (σ : dS), den mX6_code 116 [l0, l1, l2] (.ref q :: st) σ = (dget σ q 2 4).bind fun v => den mX6_code 119 [l0, l1, l2] (v :: st) σ) ∧
  (∀ (l0 l2 : Option Value) (x : Int32) (st : List Value) (σ : dS), den mX6_code 119 [l0, some (.int x), l2] st σ = den mX6_code 120 [l0, some (.int x), l2] (.int x :: st) σ) ∧
  (∀ (l0 l1 l2 : Option Value) (q : Nat) (i : Int32) (st : List Value) (σ : dS), den mX6_code 120 [l0, l1, l2] (.int i :: .ref q :: st) σ = if q ≤ dN then (dald σ q 0 i).bind (fun v => den mX6_code 121 [l0, l1, l2] (.int v :: st) σ) else none) ∧
  (∀ (l0 l1 l2 : Option Value) (v : Int32) (σ : dS), den mX6_code 121 [l0, l1, l2] [.int v] σ = some (some (.int v), σ)) ∧
  (∀ (l1 l2 : Option Value) (x : Nat) (st : List Value) (σ : dS), den mX6_code 122 [some (.ref x), l1, l2] st σ = den mX6_code 123 [some (.ref x), l1, l2] (.ref x :: st) σ) ∧
  (∀ (l0 l1 l2 : Option Value) (q : Nat) (σ : dS), den mX6_code 123 [l0, l1, l2] [.ref q] σ = if disO σ q 5 = true then ((dcall mX6_measured [.ref q] σ).bind fun r => den mX6_code 126 [l0, l1, l2] (r.1.toList ++ []) r.2) else none) ∧
  (∀ (l0 l1 l2 : Option Value) (q : Nat) (st : List Value) (σ : dS), den mX6_code 126 [l0, l1, l2] (.ref q :: st) σ = (dget σ q 0 0).bind fun v => den mX6_code 129 [l0, l1, l2] (v :: st) σ) ∧
  (∀ (l0 l2 : Option Value) (x : Int32) (st : List Value) (σ : dS), den mX6_code 129 [l0, some (.int x), l2] st σ = den mX6_code 130 [l0, some (.int x), l2] (.int x :: st) σ) ∧
  (∀ (l0 l1 l2 : Option Value) (q : Nat) (i : Int32) (st : List Value) (σ : dS), den mX6_code 130 [l0, l1, l2] (.int i :: .ref q :: st) σ = if q ≤ dN then (dald σ q 0 i).bind (fun v => den mX6_code 131 [l0, l1, l2] (.int v :: st) σ) else none) ∧
  (∀ (l0 l1 l2 : Option Value) (v : Int32) (σ : dS), den mX6_code 131 [l0, l1, l2] [.int v] σ = some (some (.int v), σ)) ∧
  (∀ (l1 l2 : Option Value) (x : Nat) (st : List Value) (σ : dS), den mX6_code 132 [some (.ref x), l1, l2] st σ = den mX6_code 133 [some (.ref x), l1, l2] (.ref x :: st) σ) ∧
  (∀ (l0 l1 l2 : Option Value) (q : Nat) (st : List Value) (σ : dS), den mX6_code 133 [l0, l1, l2] (.ref q :: st) σ = (dget σ q 5 1).bind fun v => den mX6_code 136 [l0, l1, l2] (v :: st) σ) ∧
  (∀ (l0 l2 : Option Value) (x : Int32) (st : List Value) (σ : dS), den mX6_code 136 [l0, some (.int x), l2] st σ = den mX6_code 137 [l0, some (.int x), l2] (.int x :: st) σ) ∧
  (∀ (l0 l1 l2 : Option Value) (a0 : Int32) (q : Nat) (σ : dS), den mX6_code 137 [l0, l1, l2] [.int a0, .ref q] σ = if disO σ q 2 = true then ((dcall mX3_ifOf [.ref q, .int a0] σ).bind fun r => den mX6_code 140 [l0, l1, l2] (r.1.toList ++ []) r.2) else none) ∧
  (∀ (l0 l1 l2 : Option Value) (v : Int32) (σ : dS), den mX6_code 140 [l0, l1, l2] [.int v] σ = some (some (.int v), σ)) ∧
  (∀ (l0 l1 l2 : Option Value) (st : List Value) (σ : dS), den mX6_code 141 [l0, l1, l2] st σ = den mX6_code 142 [l0, l1, l2] (.int ((-1)) :: st) σ) ∧
  (∀ (l0 l1 l2 : Option Value) (v : Int32) (σ : dS), den mX6_code 142 [l0, l1, l2] [.int v] σ = some (some (.int v), σ)) :=
  ⟨fun l1 l2 x st σ => dn_aload_n eX6_code dX6_code_112 rfl,
  fun l0 l1 l2 q st σ => dn_getfield (f := (5, 1, 260)) eX6_code dX6_code_113 (by decide +kernel),
  fun l0 l1 l2 q st σ => dn_getfield (f := (2, 4, 104)) eX6_code dX6_code_116 (by decide +kernel),
  fun l0 l2 x st σ => dn_iload_n eX6_code dX6_code_119 rfl,
  fun l0 l1 l2 q i st σ => dn_iaload eX6_code dX6_code_120,
  fun l0 l1 l2 v σ => dn_ireturn eX6_code dX6_code_121 rfl,
  fun l1 l2 x st σ => dn_aload_n eX6_code dX6_code_122 rfl,
  fun l0 l1 l2 q σ => rX6_code_123 l0 l1 l2 q σ,
  fun l0 l1 l2 q st σ => dn_getfield (f := (0, 0, 192)) eX6_code dX6_code_126 (by decide +kernel),
  fun l0 l2 x st σ => dn_iload_n eX6_code dX6_code_129 rfl,
  fun l0 l1 l2 q i st σ => dn_iaload eX6_code dX6_code_130,
  fun l0 l1 l2 v σ => dn_ireturn eX6_code dX6_code_131 rfl,
  fun l1 l2 x st σ => dn_aload_n eX6_code dX6_code_132 rfl,
  fun l0 l1 l2 q st σ => dn_getfield (f := (5, 1, 260)) eX6_code dX6_code_133 (by decide +kernel),
  fun l0 l2 x st σ => dn_iload_n eX6_code dX6_code_136 rfl,
  fun l0 l1 l2 a0 q σ => rX6_code_137 l0 l1 l2 a0 q σ,
  fun l0 l1 l2 v σ => dn_ireturn eX6_code dX6_code_140 rfl,
  fun l0 l1 l2 st σ => dn_iconst eX6_code dX6_code_141 kc_iconst_m1,
  fun l0 l1 l2 v σ => dn_ireturn eX6_code dX6_code_142 rfl⟩
theorem CX6_guard (a0 : Nat) (a1 : Int32) (a2 : Int32) (σ : dS) : dcall mX6_guard [.ref a0, .int a1, .int a2] σ = den mX6_guard 0 [some (.ref a0), some (.int a1), some (.int a2)] [] σ := dcall_den (by decide) rfl
theorem rX6_guard_5 (l0 l1 l2 : Option Value) (a0 : Int32) (q : Nat) (σ : dS) : den mX6_guard 5 [l0, l1, l2] [.int a0, .ref q] σ = if disO σ q 2 = true then ((dcall mX3_hasGuard [.ref q, .int a0] σ).bind fun r => den mX6_guard 8 [l0, l1, l2] (r.1.toList ++ []) r.2) else none := by
  by_cases h : disO σ q 2 = true
  · rw [if_pos h]; exact dn_callV (e := (0, 31, 510)) (as := [.int a0]) (rest := []) eX6_guard dX6_guard_5 (by decide +kernel) rfl (by decide +kernel) rfl (dcat_le rfl) (dlen_le rfl) rfl h
  · rw [if_neg h]; exact den_noV (e := (0, 31, 510)) (as := [.int a0]) (rest := []) eX6_guard dX6_guard_5 (by decide +kernel) rfl rfl rfl h
theorem rX6_guard_14 (l0 l1 l2 : Option Value) (x : Int32) (st : List Value) (σ : dS) : den mX6_guard 14 [l0, l1, l2] (.int x :: st) σ = if x = nI 0 then den mX6_guard 44 [l0, l1, l2] st σ else if x = nI 1 then den mX6_guard 53 [l0, l1, l2] st σ else if x = nI 2 then den mX6_guard 62 [l0, l1, l2] st σ else if x = nI 3 then den mX6_guard 71 [l0, l1, l2] st σ else den mX6_guard 80 [l0, l1, l2] st σ := by
  by_cases h0 : x = nI 0
  · rw [if_pos h0, h0]; exact dn_swIn (off := 30) eX6_guard dX6_guard_14 (by decide +kernel) (by decide +kernel) (by decide)
  rw [if_neg h0]
  by_cases h1 : x = nI 1
  · rw [if_pos h1, h1]; exact dn_swIn (off := 39) eX6_guard dX6_guard_14 (by decide +kernel) (by decide +kernel) (by decide)
  rw [if_neg h1]
  by_cases h2 : x = nI 2
  · rw [if_pos h2, h2]; exact dn_swIn (off := 48) eX6_guard dX6_guard_14 (by decide +kernel) (by decide +kernel) (by decide)
  rw [if_neg h2]
  by_cases h3 : x = nI 3
  · rw [if_pos h3, h3]; exact dn_swIn (off := 57) eX6_guard dX6_guard_14 (by decide +kernel) (by decide +kernel) (by decide)
  rw [if_neg h3]
  refine dn_swOut eX6_guard dX6_guard_14 (by decide) ?_
  have g : x.toInt ≠ 0 ∧ x.toInt ≠ 1 ∧ x.toInt ≠ 2 ∧ x.toInt ≠ 3 := ⟨sw_ne h0, sw_ne h1, sw_ne h2, sw_ne h3⟩
  omega
theorem rX6_guard_49 (l0 l1 l2 : Option Value) (a0 : Int32) (q : Nat) (σ : dS) : den mX6_guard 49 [l0, l1, l2] [.int a0, .ref q] σ = if disO σ q 2 = true then ((dcall mX3_parentOf [.ref q, .int a0] σ).bind fun r => den mX6_guard 52 [l0, l1, l2] (r.1.toList ++ []) r.2) else none := by
  by_cases h : disO σ q 2 = true
  · rw [if_pos h]; exact dn_callV (e := (0, 5, 514)) (as := [.int a0]) (rest := []) eX6_guard dX6_guard_49 (by decide +kernel) rfl (by decide +kernel) rfl (dcat_le rfl) (dlen_le rfl) rfl h
  · rw [if_neg h]; exact den_noV (e := (0, 5, 514)) (as := [.int a0]) (rest := []) eX6_guard dX6_guard_49 (by decide +kernel) rfl rfl rfl h
theorem rX6_guard_58 (l0 l1 l2 : Option Value) (a0 : Int32) (q : Nat) (σ : dS) : den mX6_guard 58 [l0, l1, l2] [.int a0, .ref q] σ = if disO σ q 2 = true then ((dcall mX3_makerOf [.ref q, .int a0] σ).bind fun r => den mX6_guard 61 [l0, l1, l2] (r.1.toList ++ []) r.2) else none := by
  by_cases h : disO σ q 2 = true
  · rw [if_pos h]; exact dn_callV (e := (0, 4, 515)) (as := [.int a0]) (rest := []) eX6_guard dX6_guard_58 (by decide +kernel) rfl (by decide +kernel) rfl (dcat_le rfl) (dlen_le rfl) rfl h
  · rw [if_neg h]; exact den_noV (e := (0, 4, 515)) (as := [.int a0]) (rest := []) eX6_guard dX6_guard_58 (by decide +kernel) rfl rfl rfl h
theorem rX6_guard_67 (l0 l1 l2 : Option Value) (a0 : Int32) (q : Nat) (σ : dS) : den mX6_guard 67 [l0, l1, l2] [.int a0, .ref q] σ = if disO σ q 2 = true then ((dcall mX3_depthOf [.ref q, .int a0] σ).bind fun r => den mX6_guard 70 [l0, l1, l2] (r.1.toList ++ []) r.2) else none := by
  by_cases h : disO σ q 2 = true
  · rw [if_pos h]; exact dn_callV (e := (0, 36, 516)) (as := [.int a0]) (rest := []) eX6_guard dX6_guard_67 (by decide +kernel) rfl (by decide +kernel) rfl (dcat_le rfl) (dlen_le rfl) rfl h
  · rw [if_neg h]; exact den_noV (e := (0, 36, 516)) (as := [.int a0]) (rest := []) eX6_guard dX6_guard_67 (by decide +kernel) rfl rfl rfl h
theorem rX6_guard_76 (l0 l1 l2 : Option Value) (a0 : Int32) (q : Nat) (σ : dS) : den mX6_guard 76 [l0, l1, l2] [.int a0, .ref q] σ = if disO σ q 2 = true then ((dcall mX3_howManyUnder [.ref q, .int a0] σ).bind fun r => den mX6_guard 79 [l0, l1, l2] (r.1.toList ++ []) r.2) else none := by
  by_cases h : disO σ q 2 = true
  · rw [if_pos h]; exact dn_callV (e := (0, 39, 517)) (as := [.int a0]) (rest := []) eX6_guard dX6_guard_76 (by decide +kernel) rfl (by decide +kernel) rfl (dcat_le rfl) (dlen_le rfl) rfl h
  · rw [if_neg h]; exact den_noV (e := (0, 39, 517)) (as := [.int a0]) (rest := []) eX6_guard dX6_guard_76 (by decide +kernel) rfl rfl rfl h
set_option maxRecDepth 20000 in
theorem SX6_guard : (∀ (l1 l2 : Option Value) (x : Nat) (st : List Value) (σ : dS), den mX6_guard 0 [some (.ref x), l1, l2] st σ = den mX6_guard 1 [some (.ref x), l1, l2] (.ref x :: st) σ) ∧
  (∀ (l0 l1 l2 : Option Value) (q : Nat) (st : List Value) (σ : dS), den mX6_guard 1 [l0, l1, l2] (.ref q :: st) σ = (dget σ q 5 1).bind fun v => den mX6_guard 4 [l0, l1, l2] (v :: st) σ) ∧
  (∀ (l0 l2 : Option Value) (x : Int32) (st : List Value) (σ : dS), den mX6_guard 4 [l0, some (.int x), l2] st σ = den mX6_guard 5 [l0, some (.int x), l2] (.int x :: st) σ) ∧
  (∀ (l0 l1 l2 : Option Value) (a0 : Int32) (q : Nat) (σ : dS), den mX6_guard 5 [l0, l1, l2] [.int a0, .ref q] σ = if disO σ q 2 = true then ((dcall mX3_hasGuard [.ref q, .int a0] σ).bind fun r => den mX6_guard 8 [l0, l1, l2] (r.1.toList ++ []) r.2) else none) ∧
  (∀ (l0 l1 l2 : Option Value) (x : Int32) (st : List Value) (σ : dS), den mX6_guard 8 [l0, l1, l2] (.int x :: st) σ = if x = 0 then den mX6_guard 11 [l0, l1, l2] st σ else den mX6_guard 13 [l0, l1, l2] st σ) ∧
  (∀ (l0 l1 l2 : Option Value) (st : List Value) (σ : dS), den mX6_guard 11 [l0, l1, l2] st σ = den mX6_guard 12 [l0, l1, l2] (.int ((-1)) :: st) σ) ∧
  (∀ (l0 l1 l2 : Option Value) (v : Int32) (σ : dS), den mX6_guard 12 [l0, l1, l2] [.int v] σ = some (some (.int v), σ)) ∧
  (∀ (l0 l1 : Option Value) (x : Int32) (st : List Value) (σ : dS), den mX6_guard 13 [l0, l1, some (.int x)] st σ = den mX6_guard 14 [l0, l1, some (.int x)] (.int x :: st) σ) ∧
  (∀ (l0 l1 l2 : Option Value) (x : Int32) (st : List Value) (σ : dS), den mX6_guard 14 [l0, l1, l2] (.int x :: st) σ = if x = nI 0 then den mX6_guard 44 [l0, l1, l2] st σ else if x = nI 1 then den mX6_guard 53 [l0, l1, l2] st σ else if x = nI 2 then den mX6_guard 62 [l0, l1, l2] st σ else if x = nI 3 then den mX6_guard 71 [l0, l1, l2] st σ else den mX6_guard 80 [l0, l1, l2] st σ) ∧
  (∀ (l1 l2 : Option Value) (x : Nat) (st : List Value) (σ : dS), den mX6_guard 44 [some (.ref x), l1, l2] st σ = den mX6_guard 45 [some (.ref x), l1, l2] (.ref x :: st) σ) ∧
  (∀ (l0 l1 l2 : Option Value) (q : Nat) (st : List Value) (σ : dS), den mX6_guard 45 [l0, l1, l2] (.ref q :: st) σ = (dget σ q 5 1).bind fun v => den mX6_guard 48 [l0, l1, l2] (v :: st) σ) ∧
  (∀ (l0 l2 : Option Value) (x : Int32) (st : List Value) (σ : dS), den mX6_guard 48 [l0, some (.int x), l2] st σ = den mX6_guard 49 [l0, some (.int x), l2] (.int x :: st) σ) ∧
  (∀ (l0 l1 l2 : Option Value) (a0 : Int32) (q : Nat) (σ : dS), den mX6_guard 49 [l0, l1, l2] [.int a0, .ref q] σ = if disO σ q 2 = true then ((dcall mX3_parentOf [.ref q, .int a0] σ).bind fun r => den mX6_guard 52 [l0, l1, l2] (r.1.toList ++ []) r.2) else none) ∧
  (∀ (l0 l1 l2 : Option Value) (v : Int32) (σ : dS), den mX6_guard 52 [l0, l1, l2] [.int v] σ = some (some (.int v), σ)) ∧
  (∀ (l1 l2 : Option Value) (x : Nat) (st : List Value) (σ : dS), den mX6_guard 53 [some (.ref x), l1, l2] st σ = den mX6_guard 54 [some (.ref x), l1, l2] (.ref x :: st) σ) ∧
  (∀ (l0 l1 l2 : Option Value) (q : Nat) (st : List Value) (σ : dS), den mX6_guard 54 [l0, l1, l2] (.ref q :: st) σ = (dget σ q 5 1).bind fun v => den mX6_guard 57 [l0, l1, l2] (v :: st) σ) ∧
  (∀ (l0 l2 : Option Value) (x : Int32) (st : List Value) (σ : dS), den mX6_guard 57 [l0, some (.int x), l2] st σ = den mX6_guard 58 [l0, some (.int x), l2] (.int x :: st) σ) ∧
  (∀ (l0 l1 l2 : Option Value) (a0 : Int32) (q : Nat) (σ : dS), den mX6_guard 58 [l0, l1, l2] [.int a0, .ref q] σ = if disO σ q 2 = true then ((dcall mX3_makerOf [.ref q, .int a0] σ).bind fun r => den mX6_guard 61 [l0, l1, l2] (r.1.toList ++ []) r.2) else none) ∧
  (∀ (l0 l1 l2 : Option Value) (v : Int32) (σ : dS), den mX6_guard 61 [l0, l1, l2] [.int v] σ = some (some (.int v), σ)) ∧
  (∀ (l1 l2 : Option Value) (x : Nat) (st : List Value) (σ : dS), den mX6_guard 62 [some (.ref x), l1, l2] st σ = den mX6_guard 63 [some (.ref x), l1, l2] (.ref x :: st) σ) ∧
  (∀ (l0 l1 l2 : Option Value) (q : Nat) (st : List Value) (σ : dS), den mX6_guard 63 [l0, l1, l2] (.ref q :: st) σ = (dget σ q 5 1).bind fun v => den mX6_guard 66 [l0, l1, l2] (v :: st) σ) ∧
  (∀ (l0 l2 : Option Value) (x : Int32) (st : List Value) (σ : dS), den mX6_guard 66 [l0, some (.int x), l2] st σ = den mX6_guard 67 [l0, some (.int x), l2] (.int x :: st) σ) ∧
  (∀ (l0 l1 l2 : Option Value) (a0 : Int32) (q : Nat) (σ : dS), den mX6_guard 67 [l0, l1, l2] [.int a0, .ref q] σ = if disO σ q 2 = true then ((dcall mX3_depthOf [.ref q, .int a0] σ).bind fun r => den mX6_guard 70 [l0, l1, l2] (r.1.toList ++ []) r.2) else none) ∧
  (∀ (l0 l1 l2 : Option Value) (v : Int32) (σ : dS), den mX6_guard 70 [l0, l1, l2] [.int v] σ = some (some (.int v), σ)) ∧
  (∀ (l1 l2 : Option Value) (x : Nat) (st : List Value) (σ : dS), den mX6_guard 71 [some (.ref x), l1, l2] st σ = den mX6_guard 72 [some (.ref x), l1, l2] (.ref x :: st) σ) ∧
  (∀ (l0 l1 l2 : Option Value) (q : Nat) (st : List Value) (σ : dS), den mX6_guard 72 [l0, l1, l2] (.ref q :: st) σ = (dget σ q 5 1).bind fun v => den mX6_guard 75 [l0, l1, l2] (v :: st) σ) ∧
  (∀ (l0 l2 : Option Value) (x : Int32) (st : List Value) (σ : dS), den mX6_guard 75 [l0, some (.int x), l2] st σ = den mX6_guard 76 [l0, some (.int x), l2] (.int x :: st) σ) ∧
  (∀ (l0 l1 l2 : Option Value) (a0 : Int32) (q : Nat) (σ : dS), den mX6_guard 76 [l0, l1, l2] [.int a0, .ref q] σ = if disO σ q 2 = true then ((dcall mX3_howManyUnder [.ref q, .int a0] σ).bind fun r => den mX6_guard 79 [l0, l1, l2] (r.1.toList ++ []) r.2) else none) ∧
  (∀ (l0 l1 l2 : Option Value) (v : Int32) (σ : dS), den mX6_guard 79 [l0, l1, l2] [.int v] σ = some (some (.int v), σ)) ∧
  (∀ (l0 l1 l2 : Option Value) (st : List Value) (σ : dS), den mX6_guard 80 [l0, l1, l2] st σ = den mX6_guard 81 [l0, l1, l2] (.int ((-1)) :: st) σ) ∧
  (∀ (l0 l1 l2 : Option Value) (v : Int32) (σ : dS), den mX6_guard 81 [l0, l1, l2] [.int v] σ = some (some (.int v), σ)) :=
  ⟨fun l1 l2 x st σ => dn_aload_n eX6_guard dX6_guard_0 rfl,
  fun l0 l1 l2 q st σ => dn_getfield (f := (5, 1, 260)) eX6_guard dX6_guard_1 (by decide +kernel),
  fun l0 l2 x st σ => dn_iload_n eX6_guard dX6_guard_4 rfl,
  fun l0 l1 l2 a0 q σ => rX6_guard_5 l0 l1 l2 a0 q σ,
  fun l0 l1 l2 x st σ => dn_if_ne eX6_guard dX6_guard_8 (by decide),
  fun l0 l1 l2 st σ => dn_iconst eX6_guard dX6_guard_11 kc_iconst_m1,
  fun l0 l1 l2 v σ => dn_ireturn eX6_guard dX6_guard_12 rfl,
  fun l0 l1 x st σ => dn_iload_n eX6_guard dX6_guard_13 rfl,
  fun l0 l1 l2 x st σ => rX6_guard_14 l0 l1 l2 x st σ,
  fun l1 l2 x st σ => dn_aload_n eX6_guard dX6_guard_44 rfl,
  fun l0 l1 l2 q st σ => dn_getfield (f := (5, 1, 260)) eX6_guard dX6_guard_45 (by decide +kernel),
  fun l0 l2 x st σ => dn_iload_n eX6_guard dX6_guard_48 rfl,
  fun l0 l1 l2 a0 q σ => rX6_guard_49 l0 l1 l2 a0 q σ,
  fun l0 l1 l2 v σ => dn_ireturn eX6_guard dX6_guard_52 rfl,
  fun l1 l2 x st σ => dn_aload_n eX6_guard dX6_guard_53 rfl,
  fun l0 l1 l2 q st σ => dn_getfield (f := (5, 1, 260)) eX6_guard dX6_guard_54 (by decide +kernel),
  fun l0 l2 x st σ => dn_iload_n eX6_guard dX6_guard_57 rfl,
  fun l0 l1 l2 a0 q σ => rX6_guard_58 l0 l1 l2 a0 q σ,
  fun l0 l1 l2 v σ => dn_ireturn eX6_guard dX6_guard_61 rfl,
  fun l1 l2 x st σ => dn_aload_n eX6_guard dX6_guard_62 rfl,
  fun l0 l1 l2 q st σ => dn_getfield (f := (5, 1, 260)) eX6_guard dX6_guard_63 (by decide +kernel),
  fun l0 l2 x st σ => dn_iload_n eX6_guard dX6_guard_66 rfl,
  fun l0 l1 l2 a0 q σ => rX6_guard_67 l0 l1 l2 a0 q σ,
  fun l0 l1 l2 v σ => dn_ireturn eX6_guard dX6_guard_70 rfl,
  fun l1 l2 x st σ => dn_aload_n eX6_guard dX6_guard_71 rfl,
  fun l0 l1 l2 q st σ => dn_getfield (f := (5, 1, 260)) eX6_guard dX6_guard_72 (by decide +kernel),
  fun l0 l2 x st σ => dn_iload_n eX6_guard dX6_guard_75 rfl,
  fun l0 l1 l2 a0 q σ => rX6_guard_76 l0 l1 l2 a0 q σ,
  fun l0 l1 l2 v σ => dn_ireturn eX6_guard dX6_guard_79 rfl,
  fun l0 l1 l2 st σ => dn_iconst eX6_guard dX6_guard_80 kc_iconst_m1,
  fun l0 l1 l2 v σ => dn_ireturn eX6_guard dX6_guard_81 rfl⟩
theorem CX6_within (a0 : Nat) (a1 : Int32) (a2 : Int32) (σ : dS) : dcall mX6_within [.ref a0, .int a1, .int a2] σ = den mX6_within 0 [some (.ref a0), some (.int a1), some (.int a2)] [] σ := dcall_den (by decide) rfl
theorem rX6_within_5 (l0 l1 l2 : Option Value) (a0 : Int32) (q : Nat) (σ : dS) : den mX6_within 5 [l0, l1, l2] [.int a0, .ref q] σ = if disO σ q 2 = true then ((dcall mX3_hasGuard [.ref q, .int a0] σ).bind fun r => den mX6_within 8 [l0, l1, l2] (r.1.toList ++ []) r.2) else none := by
  by_cases h : disO σ q 2 = true
  · rw [if_pos h]; exact dn_callV (e := (0, 31, 510)) (as := [.int a0]) (rest := []) eX6_within dX6_within_5 (by decide +kernel) rfl (by decide +kernel) rfl (dcat_le rfl) (dlen_le rfl) rfl h
  · rw [if_neg h]; exact den_noV (e := (0, 31, 510)) (as := [.int a0]) (rest := []) eX6_within dX6_within_5 (by decide +kernel) rfl rfl rfl h
theorem rX6_within_16 (l0 l1 l2 : Option Value) (a0 : Int32) (q : Nat) (σ : dS) : den mX6_within 16 [l0, l1, l2] [.int a0, .ref q] σ = if disO σ q 2 = true then ((dcall mX3_hasGuard [.ref q, .int a0] σ).bind fun r => den mX6_within 19 [l0, l1, l2] (r.1.toList ++ []) r.2) else none := by
  by_cases h : disO σ q 2 = true
  · rw [if_pos h]; exact dn_callV (e := (0, 31, 510)) (as := [.int a0]) (rest := []) eX6_within dX6_within_16 (by decide +kernel) rfl (by decide +kernel) rfl (dcat_le rfl) (dlen_le rfl) rfl h
  · rw [if_neg h]; exact den_noV (e := (0, 31, 510)) (as := [.int a0]) (rest := []) eX6_within dX6_within_16 (by decide +kernel) rfl rfl rfl h
theorem rX6_within_30 (l0 l1 l2 : Option Value) (a0 : Int32) (a1 : Int32) (q : Nat) (σ : dS) : den mX6_within 30 [l0, l1, l2] [.int a1, .int a0, .ref q] σ = if disO σ q 2 = true then ((dcall mX3_isWithin [.ref q, .int a0, .int a1] σ).bind fun r => den mX6_within 33 [l0, l1, l2] (r.1.toList ++ []) r.2) else none := by
  by_cases h : disO σ q 2 = true
  · rw [if_pos h]; exact dn_callV (e := (0, 38, 526)) (as := [.int a0, .int a1]) (rest := []) eX6_within dX6_within_30 (by decide +kernel) rfl (by decide +kernel) rfl (dcat_le rfl) (dlen_le rfl) rfl h
  · rw [if_neg h]; exact den_noV (e := (0, 38, 526)) (as := [.int a0, .int a1]) (rest := []) eX6_within dX6_within_30 (by decide +kernel) rfl rfl rfl h
set_option maxRecDepth 20000 in
theorem SX6_within : (∀ (l1 l2 : Option Value) (x : Nat) (st : List Value) (σ : dS), den mX6_within 0 [some (.ref x), l1, l2] st σ = den mX6_within 1 [some (.ref x), l1, l2] (.ref x :: st) σ) ∧
  (∀ (l0 l1 l2 : Option Value) (q : Nat) (st : List Value) (σ : dS), den mX6_within 1 [l0, l1, l2] (.ref q :: st) σ = (dget σ q 5 1).bind fun v => den mX6_within 4 [l0, l1, l2] (v :: st) σ) ∧
  (∀ (l0 l2 : Option Value) (x : Int32) (st : List Value) (σ : dS), den mX6_within 4 [l0, some (.int x), l2] st σ = den mX6_within 5 [l0, some (.int x), l2] (.int x :: st) σ) ∧
  (∀ (l0 l1 l2 : Option Value) (a0 : Int32) (q : Nat) (σ : dS), den mX6_within 5 [l0, l1, l2] [.int a0, .ref q] σ = if disO σ q 2 = true then ((dcall mX3_hasGuard [.ref q, .int a0] σ).bind fun r => den mX6_within 8 [l0, l1, l2] (r.1.toList ++ []) r.2) else none) ∧
  (∀ (l0 l1 l2 : Option Value) (x : Int32) (st : List Value) (σ : dS), den mX6_within 8 [l0, l1, l2] (.int x :: st) σ = if x = 0 then den mX6_within 22 [l0, l1, l2] st σ else den mX6_within 11 [l0, l1, l2] st σ) ∧
  (∀ (l1 l2 : Option Value) (x : Nat) (st : List Value) (σ : dS), den mX6_within 11 [some (.ref x), l1, l2] st σ = den mX6_within 12 [some (.ref x), l1, l2] (.ref x :: st) σ) ∧
  (∀ (l0 l1 l2 : Option Value) (q : Nat) (st : List Value) (σ : dS), den mX6_within 12 [l0, l1, l2] (.ref q :: st) σ = (dget σ q 5 1).bind fun v => den mX6_within 15 [l0, l1, l2] (v :: st) σ) ∧
  (∀ (l0 l1 : Option Value) (x : Int32) (st : List Value) (σ : dS), den mX6_within 15 [l0, l1, some (.int x)] st σ = den mX6_within 16 [l0, l1, some (.int x)] (.int x :: st) σ) ∧
  (∀ (l0 l1 l2 : Option Value) (a0 : Int32) (q : Nat) (σ : dS), den mX6_within 16 [l0, l1, l2] [.int a0, .ref q] σ = if disO σ q 2 = true then ((dcall mX3_hasGuard [.ref q, .int a0] σ).bind fun r => den mX6_within 19 [l0, l1, l2] (r.1.toList ++ []) r.2) else none) ∧
  (∀ (l0 l1 l2 : Option Value) (x : Int32) (st : List Value) (σ : dS), den mX6_within 19 [l0, l1, l2] (.int x :: st) σ = if x = 0 then den mX6_within 22 [l0, l1, l2] st σ else den mX6_within 24 [l0, l1, l2] st σ) ∧
  (∀ (l0 l1 l2 : Option Value) (st : List Value) (σ : dS), den mX6_within 22 [l0, l1, l2] st σ = den mX6_within 23 [l0, l1, l2] (.int ((-1)) :: st) σ) ∧
  (∀ (l0 l1 l2 : Option Value) (v : Int32) (σ : dS), den mX6_within 23 [l0, l1, l2] [.int v] σ = some (some (.int v), σ)) ∧
  (∀ (l1 l2 : Option Value) (x : Nat) (st : List Value) (σ : dS), den mX6_within 24 [some (.ref x), l1, l2] st σ = den mX6_within 25 [some (.ref x), l1, l2] (.ref x :: st) σ) ∧
  (∀ (l0 l1 l2 : Option Value) (q : Nat) (st : List Value) (σ : dS), den mX6_within 25 [l0, l1, l2] (.ref q :: st) σ = (dget σ q 5 1).bind fun v => den mX6_within 28 [l0, l1, l2] (v :: st) σ) ∧
  (∀ (l0 l2 : Option Value) (x : Int32) (st : List Value) (σ : dS), den mX6_within 28 [l0, some (.int x), l2] st σ = den mX6_within 29 [l0, some (.int x), l2] (.int x :: st) σ) ∧
  (∀ (l0 l1 : Option Value) (x : Int32) (st : List Value) (σ : dS), den mX6_within 29 [l0, l1, some (.int x)] st σ = den mX6_within 30 [l0, l1, some (.int x)] (.int x :: st) σ) ∧
  (∀ (l0 l1 l2 : Option Value) (a0 : Int32) (a1 : Int32) (q : Nat) (σ : dS), den mX6_within 30 [l0, l1, l2] [.int a1, .int a0, .ref q] σ = if disO σ q 2 = true then ((dcall mX3_isWithin [.ref q, .int a0, .int a1] σ).bind fun r => den mX6_within 33 [l0, l1, l2] (r.1.toList ++ []) r.2) else none) ∧
  (∀ (l0 l1 l2 : Option Value) (a0 : Int32) (σ : dS), den mX6_within 33 [l0, l1, l2] [.int a0] σ = (dcall mX6_oneIf [.int a0] σ).bind fun r => den mX6_within 36 [l0, l1, l2] (r.1.toList ++ []) r.2) ∧
  (∀ (l0 l1 l2 : Option Value) (v : Int32) (σ : dS), den mX6_within 36 [l0, l1, l2] [.int v] σ = some (some (.int v), σ)) :=
  ⟨fun l1 l2 x st σ => dn_aload_n eX6_within dX6_within_0 rfl,
  fun l0 l1 l2 q st σ => dn_getfield (f := (5, 1, 260)) eX6_within dX6_within_1 (by decide +kernel),
  fun l0 l2 x st σ => dn_iload_n eX6_within dX6_within_4 rfl,
  fun l0 l1 l2 a0 q σ => rX6_within_5 l0 l1 l2 a0 q σ,
  fun l0 l1 l2 x st σ => dn_if_eq eX6_within dX6_within_8 (by decide),
  fun l1 l2 x st σ => dn_aload_n eX6_within dX6_within_11 rfl,
  fun l0 l1 l2 q st σ => dn_getfield (f := (5, 1, 260)) eX6_within dX6_within_12 (by decide +kernel),
  fun l0 l1 x st σ => dn_iload_n eX6_within dX6_within_15 rfl,
  fun l0 l1 l2 a0 q σ => rX6_within_16 l0 l1 l2 a0 q σ,
  fun l0 l1 l2 x st σ => dn_if_ne eX6_within dX6_within_19 (by decide),
  fun l0 l1 l2 st σ => dn_iconst eX6_within dX6_within_22 kc_iconst_m1,
  fun l0 l1 l2 v σ => dn_ireturn eX6_within dX6_within_23 rfl,
  fun l1 l2 x st σ => dn_aload_n eX6_within dX6_within_24 rfl,
  fun l0 l1 l2 q st σ => dn_getfield (f := (5, 1, 260)) eX6_within dX6_within_25 (by decide +kernel),
  fun l0 l2 x st σ => dn_iload_n eX6_within dX6_within_28 rfl,
  fun l0 l1 x st σ => dn_iload_n eX6_within dX6_within_29 rfl,
  fun l0 l1 l2 a0 a1 q σ => rX6_within_30 l0 l1 l2 a0 a1 q σ,
  fun l0 l1 l2 a0 σ => dn_callS (e := (1, 9, 530)) (as := [.int a0]) (rest := []) eX6_within dX6_within_33 (by decide +kernel) (Or.inl rfl) (by decide +kernel) rfl (dcat_le rfl) (dlen_le rfl) rfl,
  fun l0 l1 l2 v σ => dn_ireturn eX6_within dX6_within_36 rfl⟩
theorem CX6_apart (a0 : Nat) (a1 : Int32) (a2 : Int32) (σ : dS) : dcall mX6_apart [.ref a0, .int a1, .int a2] σ = den mX6_apart 0 [some (.ref a0), some (.int a1), some (.int a2)] [] σ := dcall_den (by decide) rfl
theorem rX6_apart_5 (l0 l1 l2 : Option Value) (a0 : Int32) (q : Nat) (σ : dS) : den mX6_apart 5 [l0, l1, l2] [.int a0, .ref q] σ = if disO σ q 2 = true then ((dcall mX3_hasGuard [.ref q, .int a0] σ).bind fun r => den mX6_apart 8 [l0, l1, l2] (r.1.toList ++ []) r.2) else none := by
  by_cases h : disO σ q 2 = true
  · rw [if_pos h]; exact dn_callV (e := (0, 31, 510)) (as := [.int a0]) (rest := []) eX6_apart dX6_apart_5 (by decide +kernel) rfl (by decide +kernel) rfl (dcat_le rfl) (dlen_le rfl) rfl h
  · rw [if_neg h]; exact den_noV (e := (0, 31, 510)) (as := [.int a0]) (rest := []) eX6_apart dX6_apart_5 (by decide +kernel) rfl rfl rfl h
theorem rX6_apart_16 (l0 l1 l2 : Option Value) (a0 : Int32) (q : Nat) (σ : dS) : den mX6_apart 16 [l0, l1, l2] [.int a0, .ref q] σ = if disO σ q 2 = true then ((dcall mX3_hasGuard [.ref q, .int a0] σ).bind fun r => den mX6_apart 19 [l0, l1, l2] (r.1.toList ++ []) r.2) else none := by
  by_cases h : disO σ q 2 = true
  · rw [if_pos h]; exact dn_callV (e := (0, 31, 510)) (as := [.int a0]) (rest := []) eX6_apart dX6_apart_16 (by decide +kernel) rfl (by decide +kernel) rfl (dcat_le rfl) (dlen_le rfl) rfl h
  · rw [if_neg h]; exact den_noV (e := (0, 31, 510)) (as := [.int a0]) (rest := []) eX6_apart dX6_apart_16 (by decide +kernel) rfl rfl rfl h
set_option maxRecDepth 20000 in
theorem SX6_apart : (∀ (l1 l2 : Option Value) (x : Nat) (st : List Value) (σ : dS), den mX6_apart 0 [some (.ref x), l1, l2] st σ = den mX6_apart 1 [some (.ref x), l1, l2] (.ref x :: st) σ) ∧
  (∀ (l0 l1 l2 : Option Value) (q : Nat) (st : List Value) (σ : dS), den mX6_apart 1 [l0, l1, l2] (.ref q :: st) σ = (dget σ q 5 1).bind fun v => den mX6_apart 4 [l0, l1, l2] (v :: st) σ) ∧
  (∀ (l0 l2 : Option Value) (x : Int32) (st : List Value) (σ : dS), den mX6_apart 4 [l0, some (.int x), l2] st σ = den mX6_apart 5 [l0, some (.int x), l2] (.int x :: st) σ) ∧
  (∀ (l0 l1 l2 : Option Value) (a0 : Int32) (q : Nat) (σ : dS), den mX6_apart 5 [l0, l1, l2] [.int a0, .ref q] σ = if disO σ q 2 = true then ((dcall mX3_hasGuard [.ref q, .int a0] σ).bind fun r => den mX6_apart 8 [l0, l1, l2] (r.1.toList ++ []) r.2) else none) ∧
  (∀ (l0 l1 l2 : Option Value) (x : Int32) (st : List Value) (σ : dS), den mX6_apart 8 [l0, l1, l2] (.int x :: st) σ = if x = 0 then den mX6_apart 22 [l0, l1, l2] st σ else den mX6_apart 11 [l0, l1, l2] st σ) ∧
  (∀ (l1 l2 : Option Value) (x : Nat) (st : List Value) (σ : dS), den mX6_apart 11 [some (.ref x), l1, l2] st σ = den mX6_apart 12 [some (.ref x), l1, l2] (.ref x :: st) σ) ∧
  (∀ (l0 l1 l2 : Option Value) (q : Nat) (st : List Value) (σ : dS), den mX6_apart 12 [l0, l1, l2] (.ref q :: st) σ = (dget σ q 5 1).bind fun v => den mX6_apart 15 [l0, l1, l2] (v :: st) σ) ∧
  (∀ (l0 l1 : Option Value) (x : Int32) (st : List Value) (σ : dS), den mX6_apart 15 [l0, l1, some (.int x)] st σ = den mX6_apart 16 [l0, l1, some (.int x)] (.int x :: st) σ) ∧
  (∀ (l0 l1 l2 : Option Value) (a0 : Int32) (q : Nat) (σ : dS), den mX6_apart 16 [l0, l1, l2] [.int a0, .ref q] σ = if disO σ q 2 = true then ((dcall mX3_hasGuard [.ref q, .int a0] σ).bind fun r => den mX6_apart 19 [l0, l1, l2] (r.1.toList ++ []) r.2) else none) ∧
  (∀ (l0 l1 l2 : Option Value) (x : Int32) (st : List Value) (σ : dS), den mX6_apart 19 [l0, l1, l2] (.int x :: st) σ = if x = 0 then den mX6_apart 22 [l0, l1, l2] st σ else den mX6_apart 24 [l0, l1, l2] st σ) ∧
  (∀ (l0 l1 l2 : Option Value) (st : List Value) (σ : dS), den mX6_apart 22 [l0, l1, l2] st σ = den mX6_apart 23 [l0, l1, l2] (.int ((-1)) :: st) σ) ∧
  (∀ (l0 l1 l2 : Option Value) (v : Int32) (σ : dS), den mX6_apart 23 [l0, l1, l2] [.int v] σ = some (some (.int v), σ)) ∧
  (∀ (l1 l2 : Option Value) (x : Nat) (st : List Value) (σ : dS), den mX6_apart 24 [some (.ref x), l1, l2] st σ = den mX6_apart 25 [some (.ref x), l1, l2] (.ref x :: st) σ) ∧
  (∀ (l0 l1 l2 : Option Value) (q : Nat) (st : List Value) (σ : dS), den mX6_apart 25 [l0, l1, l2] (.ref q :: st) σ = (dget σ q 5 1).bind fun v => den mX6_apart 28 [l0, l1, l2] (v :: st) σ) ∧
  (∀ (l0 l2 : Option Value) (x : Int32) (st : List Value) (σ : dS), den mX6_apart 28 [l0, some (.int x), l2] st σ = den mX6_apart 29 [l0, some (.int x), l2] (.int x :: st) σ) ∧
  (∀ (l0 l1 : Option Value) (x : Int32) (st : List Value) (σ : dS), den mX6_apart 29 [l0, l1, some (.int x)] st σ = den mX6_apart 30 [l0, l1, some (.int x)] (.int x :: st) σ) ∧
  (∀ (l0 l1 l2 : Option Value) (a0 : Nat) (a1 : Int32) (a2 : Int32) (σ : dS), den mX6_apart 30 [l0, l1, l2] [.int a2, .int a1, .ref a0] σ = (dcall mX1_neverBoth [.ref a0, .int a1, .int a2] σ).bind fun r => den mX6_apart 33 [l0, l1, l2] (r.1.toList ++ []) r.2) ∧
  (∀ (l0 l1 l2 : Option Value) (a0 : Int32) (σ : dS), den mX6_apart 33 [l0, l1, l2] [.int a0] σ = (dcall mX6_oneIf [.int a0] σ).bind fun r => den mX6_apart 36 [l0, l1, l2] (r.1.toList ++ []) r.2) ∧
  (∀ (l0 l1 l2 : Option Value) (v : Int32) (σ : dS), den mX6_apart 36 [l0, l1, l2] [.int v] σ = some (some (.int v), σ)) :=
  ⟨fun l1 l2 x st σ => dn_aload_n eX6_apart dX6_apart_0 rfl,
  fun l0 l1 l2 q st σ => dn_getfield (f := (5, 1, 260)) eX6_apart dX6_apart_1 (by decide +kernel),
  fun l0 l2 x st σ => dn_iload_n eX6_apart dX6_apart_4 rfl,
  fun l0 l1 l2 a0 q σ => rX6_apart_5 l0 l1 l2 a0 q σ,
  fun l0 l1 l2 x st σ => dn_if_eq eX6_apart dX6_apart_8 (by decide),
  fun l1 l2 x st σ => dn_aload_n eX6_apart dX6_apart_11 rfl,
  fun l0 l1 l2 q st σ => dn_getfield (f := (5, 1, 260)) eX6_apart dX6_apart_12 (by decide +kernel),
  fun l0 l1 x st σ => dn_iload_n eX6_apart dX6_apart_15 rfl,
  fun l0 l1 l2 a0 q σ => rX6_apart_16 l0 l1 l2 a0 q σ,
  fun l0 l1 l2 x st σ => dn_if_ne eX6_apart dX6_apart_19 (by decide),
  fun l0 l1 l2 st σ => dn_iconst eX6_apart dX6_apart_22 kc_iconst_m1,
  fun l0 l1 l2 v σ => dn_ireturn eX6_apart dX6_apart_23 rfl,
  fun l1 l2 x st σ => dn_aload_n eX6_apart dX6_apart_24 rfl,
  fun l0 l1 l2 q st σ => dn_getfield (f := (5, 1, 260)) eX6_apart dX6_apart_25 (by decide +kernel),
  fun l0 l2 x st σ => dn_iload_n eX6_apart dX6_apart_28 rfl,
  fun l0 l1 x st σ => dn_iload_n eX6_apart dX6_apart_29 rfl,
  fun l0 l1 l2 a0 a1 a2 σ => dn_callS (e := (1, 13, 535)) (as := [.ref a0, .int a1, .int a2]) (rest := []) eX6_apart dX6_apart_30 (by decide +kernel) (Or.inl rfl) (by decide +kernel) rfl (dcat_le rfl) (dlen_le rfl) rfl,
  fun l0 l1 l2 a0 σ => dn_callS (e := (1, 9, 530)) (as := [.int a0]) (rest := []) eX6_apart dX6_apart_33 (by decide +kernel) (Or.inl rfl) (by decide +kernel) rfl (dcat_le rfl) (dlen_le rfl) rfl,
  fun l0 l1 l2 v σ => dn_ireturn eX6_apart dX6_apart_36 rfl⟩
theorem CX6_cover (a0 : Nat) (a1 : Int32) (a2 : Int32) (σ : dS) : dcall mX6_cover [.ref a0, .int a1, .int a2] σ = den mX6_cover 0 [some (.ref a0), some (.int a1), some (.int a2)] [] σ := dcall_den (by decide) rfl
theorem rX6_cover_5 (l0 l1 l2 : Option Value) (a0 : Int32) (q : Nat) (σ : dS) : den mX6_cover 5 [l0, l1, l2] [.int a0, .ref q] σ = if disO σ q 2 = true then ((dcall mX3_hasGuard [.ref q, .int a0] σ).bind fun r => den mX6_cover 8 [l0, l1, l2] (r.1.toList ++ []) r.2) else none := by
  by_cases h : disO σ q 2 = true
  · rw [if_pos h]; exact dn_callV (e := (0, 31, 510)) (as := [.int a0]) (rest := []) eX6_cover dX6_cover_5 (by decide +kernel) rfl (by decide +kernel) rfl (dcat_le rfl) (dlen_le rfl) rfl h
  · rw [if_neg h]; exact den_noV (e := (0, 31, 510)) (as := [.int a0]) (rest := []) eX6_cover dX6_cover_5 (by decide +kernel) rfl rfl rfl h
theorem rX6_cover_21 (l0 l1 l2 : Option Value) (b0 : Int32) (b1 : Int32) (q : Nat) (σ : dS) : den mX6_cover 21 [l0, l1, l2] [.ref q, .int b0, .int b1] σ = if disO σ q 2 = true then ((dcall mX3_guardCount [.ref q] σ).bind fun r => den mX6_cover 24 [l0, l1, l2] (r.1.toList ++ [.int b0, .int b1]) r.2) else none := by
  by_cases h : disO σ q 2 = true
  · rw [if_pos h]; exact dn_callV (e := (0, 30, 549)) (as := []) (rest := [.int b0, .int b1]) eX6_cover dX6_cover_21 (by decide +kernel) rfl (by decide +kernel) rfl (dcat_le rfl) (dlen_le rfl) rfl h
  · rw [if_neg h]; exact den_noV (e := (0, 30, 549)) (as := []) (rest := [.int b0, .int b1]) eX6_cover dX6_cover_21 (by decide +kernel) rfl rfl rfl h
set_option maxRecDepth 20000 in
theorem SX6_cover : (∀ (l1 l2 : Option Value) (x : Nat) (st : List Value) (σ : dS), den mX6_cover 0 [some (.ref x), l1, l2] st σ = den mX6_cover 1 [some (.ref x), l1, l2] (.ref x :: st) σ) ∧
  (∀ (l0 l1 l2 : Option Value) (q : Nat) (st : List Value) (σ : dS), den mX6_cover 1 [l0, l1, l2] (.ref q :: st) σ = (dget σ q 5 1).bind fun v => den mX6_cover 4 [l0, l1, l2] (v :: st) σ) ∧
  (∀ (l0 l2 : Option Value) (x : Int32) (st : List Value) (σ : dS), den mX6_cover 4 [l0, some (.int x), l2] st σ = den mX6_cover 5 [l0, some (.int x), l2] (.int x :: st) σ) ∧
  (∀ (l0 l1 l2 : Option Value) (a0 : Int32) (q : Nat) (σ : dS), den mX6_cover 5 [l0, l1, l2] [.int a0, .ref q] σ = if disO σ q 2 = true then ((dcall mX3_hasGuard [.ref q, .int a0] σ).bind fun r => den mX6_cover 8 [l0, l1, l2] (r.1.toList ++ []) r.2) else none) ∧
  (∀ (l0 l1 l2 : Option Value) (x : Int32) (st : List Value) (σ : dS), den mX6_cover 8 [l0, l1, l2] (.int x :: st) σ = if x = 0 then den mX6_cover 28 [l0, l1, l2] st σ else den mX6_cover 11 [l0, l1, l2] st σ) ∧
  (∀ (l0 l1 : Option Value) (x : Int32) (st : List Value) (σ : dS), den mX6_cover 11 [l0, l1, some (.int x)] st σ = den mX6_cover 12 [l0, l1, some (.int x)] (.int x :: st) σ) ∧
  (∀ (l0 l1 l2 : Option Value) (x : Int32) (st : List Value) (σ : dS), den mX6_cover 12 [l0, l1, l2] (.int x :: st) σ = if x < 0 then den mX6_cover 28 [l0, l1, l2] st σ else den mX6_cover 15 [l0, l1, l2] st σ) ∧
  (∀ (l0 l1 : Option Value) (x : Int32) (st : List Value) (σ : dS), den mX6_cover 15 [l0, l1, some (.int x)] st σ = den mX6_cover 16 [l0, l1, some (.int x)] (.int x :: st) σ) ∧
  (∀ (l0 l1 l2 : Option Value) (st : List Value) (σ : dS), den mX6_cover 16 [l0, l1, l2] st σ = den mX6_cover 17 [l0, l1, l2] (.int (nI 1) :: st) σ) ∧
  (∀ (l1 l2 : Option Value) (x : Nat) (st : List Value) (σ : dS), den mX6_cover 17 [some (.ref x), l1, l2] st σ = den mX6_cover 18 [some (.ref x), l1, l2] (.ref x :: st) σ) ∧
  (∀ (l0 l1 l2 : Option Value) (q : Nat) (st : List Value) (σ : dS), den mX6_cover 18 [l0, l1, l2] (.ref q :: st) σ = (dget σ q 5 1).bind fun v => den mX6_cover 21 [l0, l1, l2] (v :: st) σ) ∧
  (∀ (l0 l1 l2 : Option Value) (b0 : Int32) (b1 : Int32) (q : Nat) (σ : dS), den mX6_cover 21 [l0, l1, l2] [.ref q, .int b0, .int b1] σ = if disO σ q 2 = true then ((dcall mX3_guardCount [.ref q] σ).bind fun r => den mX6_cover 24 [l0, l1, l2] (r.1.toList ++ [.int b0, .int b1]) r.2) else none) ∧
  (∀ (l0 l1 l2 : Option Value) (x y : Int32) (st : List Value) (σ : dS), den mX6_cover 24 [l0, l1, l2] (.int y :: .int x :: st) σ = den mX6_cover 25 [l0, l1, l2] (.int (x <<< (y &&& 31)) :: st) σ) ∧
  (∀ (l0 l1 l2 : Option Value) (x y : Int32) (st : List Value) (σ : dS), den mX6_cover 25 [l0, l1, l2] (.int y :: .int x :: st) σ = if x < y then den mX6_cover 30 [l0, l1, l2] st σ else den mX6_cover 28 [l0, l1, l2] st σ) ∧
  (∀ (l0 l1 l2 : Option Value) (st : List Value) (σ : dS), den mX6_cover 28 [l0, l1, l2] st σ = den mX6_cover 29 [l0, l1, l2] (.int ((-1)) :: st) σ) ∧
  (∀ (l0 l1 l2 : Option Value) (v : Int32) (σ : dS), den mX6_cover 29 [l0, l1, l2] [.int v] σ = some (some (.int v), σ)) ∧
  (∀ (l1 l2 : Option Value) (x : Nat) (st : List Value) (σ : dS), den mX6_cover 30 [some (.ref x), l1, l2] st σ = den mX6_cover 31 [some (.ref x), l1, l2] (.ref x :: st) σ) ∧
  (∀ (l0 l1 l2 : Option Value) (q : Nat) (st : List Value) (σ : dS), den mX6_cover 31 [l0, l1, l2] (.ref q :: st) σ = (dget σ q 5 1).bind fun v => den mX6_cover 34 [l0, l1, l2] (v :: st) σ) ∧
  (∀ (l0 l2 : Option Value) (x : Int32) (st : List Value) (σ : dS), den mX6_cover 34 [l0, some (.int x), l2] st σ = den mX6_cover 35 [l0, some (.int x), l2] (.int x :: st) σ) ∧
  (∀ (l0 l1 : Option Value) (x : Int32) (st : List Value) (σ : dS), den mX6_cover 35 [l0, l1, some (.int x)] st σ = den mX6_cover 36 [l0, l1, some (.int x)] (.int x :: st) σ) ∧
  (∀ (l0 l1 l2 : Option Value) (a0 : Nat) (a1 : Int32) (a2 : Int32) (σ : dS), den mX6_cover 36 [l0, l1, l2] [.int a2, .int a1, .ref a0] σ = (dcall mX1_isCovered [.ref a0, .int a1, .int a2] σ).bind fun r => den mX6_cover 39 [l0, l1, l2] (r.1.toList ++ []) r.2) ∧
  (∀ (l0 l1 l2 : Option Value) (a0 : Int32) (σ : dS), den mX6_cover 39 [l0, l1, l2] [.int a0] σ = (dcall mX6_oneIf [.int a0] σ).bind fun r => den mX6_cover 42 [l0, l1, l2] (r.1.toList ++ []) r.2) ∧
  (∀ (l0 l1 l2 : Option Value) (v : Int32) (σ : dS), den mX6_cover 42 [l0, l1, l2] [.int v] σ = some (some (.int v), σ)) :=
  ⟨fun l1 l2 x st σ => dn_aload_n eX6_cover dX6_cover_0 rfl,
  fun l0 l1 l2 q st σ => dn_getfield (f := (5, 1, 260)) eX6_cover dX6_cover_1 (by decide +kernel),
  fun l0 l2 x st σ => dn_iload_n eX6_cover dX6_cover_4 rfl,
  fun l0 l1 l2 a0 q σ => rX6_cover_5 l0 l1 l2 a0 q σ,
  fun l0 l1 l2 x st σ => dn_if_eq eX6_cover dX6_cover_8 (by decide),
  fun l0 l1 x st σ => dn_iload_n eX6_cover dX6_cover_11 rfl,
  fun l0 l1 l2 x st σ => dn_if_lt eX6_cover dX6_cover_12 (by decide),
  fun l0 l1 x st σ => dn_iload_n eX6_cover dX6_cover_15 rfl,
  fun l0 l1 l2 st σ => dn_iconst eX6_cover dX6_cover_16 kc_iconst_1,
  fun l1 l2 x st σ => dn_aload_n eX6_cover dX6_cover_17 rfl,
  fun l0 l1 l2 q st σ => dn_getfield (f := (5, 1, 260)) eX6_cover dX6_cover_18 (by decide +kernel),
  fun l0 l1 l2 b0 b1 q σ => rX6_cover_21 l0 l1 l2 b0 b1 q σ,
  fun l0 l1 l2 x y st σ => dn_ishl eX6_cover dX6_cover_24,
  fun l0 l1 l2 x y st σ => dn_icmp_lt eX6_cover dX6_cover_25 (by decide),
  fun l0 l1 l2 st σ => dn_iconst eX6_cover dX6_cover_28 kc_iconst_m1,
  fun l0 l1 l2 v σ => dn_ireturn eX6_cover dX6_cover_29 rfl,
  fun l1 l2 x st σ => dn_aload_n eX6_cover dX6_cover_30 rfl,
  fun l0 l1 l2 q st σ => dn_getfield (f := (5, 1, 260)) eX6_cover dX6_cover_31 (by decide +kernel),
  fun l0 l2 x st σ => dn_iload_n eX6_cover dX6_cover_34 rfl,
  fun l0 l1 x st σ => dn_iload_n eX6_cover dX6_cover_35 rfl,
  fun l0 l1 l2 a0 a1 a2 σ => dn_callS (e := (1, 14, 550)) (as := [.ref a0, .int a1, .int a2]) (rest := []) eX6_cover dX6_cover_36 (by decide +kernel) (Or.inl rfl) (by decide +kernel) rfl (dcat_le rfl) (dlen_le rfl) rfl,
  fun l0 l1 l2 a0 σ => dn_callS (e := (1, 9, 530)) (as := [.int a0]) (rest := []) eX6_cover dX6_cover_39 (by decide +kernel) (Or.inl rfl) (by decide +kernel) rfl (dcat_le rfl) (dlen_le rfl) rfl,
  fun l0 l1 l2 v σ => dn_ireturn eX6_cover dX6_cover_42 rfl⟩
theorem CX6_run (a0 : Nat) (a1 : Int32) (a2 : Int32) (a3 : Int32) (a4 : Int32) (σ : dS) : dcall mX6_run [.ref a0, .int a1, .int a2, .int a3, .int a4] σ = den mX6_run 0 [some (.ref a0), some (.int a1), some (.int a2), some (.int a3), some (.int a4)] [] σ := dcall_den (by decide) rfl
theorem rX6_run_9 (l0 l1 l2 l3 l4 : Option Value) (a0 : Int32) (a1 : Int32) (a2 : Int32) (a3 : Int32) (q : Nat) (σ : dS) : den mX6_run 9 [l0, l1, l2, l3, l4] [.int a3, .int a2, .int a1, .int a0, .ref q] σ = if disO σ q 1 = true then ((dcall mX2_begin [.ref q, .int a0, .int a1, .int a2, .int a3] σ).bind fun r => den mX6_run 12 [l0, l1, l2, l3, l4] (r.1.toList ++ []) r.2) else none := by
  by_cases h : disO σ q 1 = true
  · rw [if_pos h]; exact dn_callV (e := (0, 18, 557)) (as := [.int a0, .int a1, .int a2, .int a3]) (rest := []) eX6_run dX6_run_9 (by decide +kernel) rfl (by decide +kernel) rfl (dcat_le rfl) (dlen_le rfl) rfl h
  · rw [if_neg h]; exact den_noV (e := (0, 18, 557)) (as := [.int a0, .int a1, .int a2, .int a3]) (rest := []) eX6_run dX6_run_9 (by decide +kernel) rfl rfl rfl h
theorem rX6_run_21 (l0 l1 l2 l3 l4 : Option Value) (b0 : Nat) (b1 : Nat) (q : Nat) (σ : dS) : den mX6_run 21 [l0, l1, l2, l3, l4] [.ref q, .ref b0, .ref b1] σ = if disO σ q 5 = true then ((dcall mX6_measured [.ref q] σ).bind fun r => den mX6_run 24 [l0, l1, l2, l3, l4] (r.1.toList ++ [.ref b0, .ref b1]) r.2) else none := by
  by_cases h : disO σ q 5 = true
  · rw [if_pos h]; exact dn_callV (e := (0, 72, 457)) (as := []) (rest := [.ref b0, .ref b1]) eX6_run dX6_run_21 (by decide +kernel) rfl (by decide +kernel) rfl (dcat_le rfl) (dlen_le rfl) rfl h
  · rw [if_neg h]; exact den_noV (e := (0, 72, 457)) (as := []) (rest := [.ref b0, .ref b1]) eX6_run dX6_run_21 (by decide +kernel) rfl rfl rfl h
theorem rX6_run_24 (l0 l1 l2 l3 l4 : Option Value) (a0 : Nat) (a1 : Nat) (q : Nat) (σ : dS) : den mX6_run 24 [l0, l1, l2, l3, l4] [.ref a1, .ref a0, .ref q] σ = if disO σ q 1 = true then ((dcall mX2_doAll [.ref q, .ref a0, .ref a1] σ).bind fun r => den mX6_run 27 [l0, l1, l2, l3, l4] (r.1.toList ++ []) r.2) else none := by
  by_cases h : disO σ q 1 = true
  · rw [if_pos h]; exact dn_callV (e := (0, 23, 562)) (as := [.ref a0, .ref a1]) (rest := []) eX6_run dX6_run_24 (by decide +kernel) rfl (by decide +kernel) rfl (dcat_le rfl) (dlen_le rfl) rfl h
  · rw [if_neg h]; exact den_noV (e := (0, 23, 562)) (as := [.ref a0, .ref a1]) (rest := []) eX6_run dX6_run_24 (by decide +kernel) rfl rfl rfl h
set_option maxRecDepth 20000 in
theorem SX6_run : (∀ (l1 l2 l3 l4 : Option Value) (x : Nat) (st : List Value) (σ : dS), den mX6_run 0 [some (.ref x), l1, l2, l3, l4] st σ = den mX6_run 1 [some (.ref x), l1, l2, l3, l4] (.ref x :: st) σ) ∧
  (∀ (l0 l1 l2 l3 l4 : Option Value) (q : Nat) (st : List Value) (σ : dS), den mX6_run 1 [l0, l1, l2, l3, l4] (.ref q :: st) σ = (dget σ q 5 5).bind fun v => den mX6_run 4 [l0, l1, l2, l3, l4] (v :: st) σ) ∧
  (∀ (l0 l2 l3 l4 : Option Value) (x : Int32) (st : List Value) (σ : dS), den mX6_run 4 [l0, some (.int x), l2, l3, l4] st σ = den mX6_run 5 [l0, some (.int x), l2, l3, l4] (.int x :: st) σ) ∧
  (∀ (l0 l1 l3 l4 : Option Value) (x : Int32) (st : List Value) (σ : dS), den mX6_run 5 [l0, l1, some (.int x), l3, l4] st σ = den mX6_run 6 [l0, l1, some (.int x), l3, l4] (.int x :: st) σ) ∧
  (∀ (l0 l1 l2 l4 : Option Value) (x : Int32) (st : List Value) (σ : dS), den mX6_run 6 [l0, l1, l2, some (.int x), l4] st σ = den mX6_run 7 [l0, l1, l2, some (.int x), l4] (.int x :: st) σ) ∧
  (∀ (l0 l1 l2 l3 : Option Value) (x : Int32) (st : List Value) (σ : dS), den mX6_run 7 [l0, l1, l2, l3, some (.int x)] st σ = den mX6_run 9 [l0, l1, l2, l3, some (.int x)] (.int x :: st) σ) ∧
  (∀ (l0 l1 l2 l3 l4 : Option Value) (a0 : Int32) (a1 : Int32) (a2 : Int32) (a3 : Int32) (q : Nat) (σ : dS), den mX6_run 9 [l0, l1, l2, l3, l4] [.int a3, .int a2, .int a1, .int a0, .ref q] σ = if disO σ q 1 = true then ((dcall mX2_begin [.ref q, .int a0, .int a1, .int a2, .int a3] σ).bind fun r => den mX6_run 12 [l0, l1, l2, l3, l4] (r.1.toList ++ []) r.2) else none) ∧
  (∀ (l1 l2 l3 l4 : Option Value) (x : Nat) (st : List Value) (σ : dS), den mX6_run 12 [some (.ref x), l1, l2, l3, l4] st σ = den mX6_run 13 [some (.ref x), l1, l2, l3, l4] (.ref x :: st) σ) ∧
  (∀ (l0 l1 l2 l3 l4 : Option Value) (q : Nat) (st : List Value) (σ : dS), den mX6_run 13 [l0, l1, l2, l3, l4] (.ref q :: st) σ = (dget σ q 5 5).bind fun v => den mX6_run 16 [l0, l1, l2, l3, l4] (v :: st) σ) ∧
  (∀ (l1 l2 l3 l4 : Option Value) (x : Nat) (st : List Value) (σ : dS), den mX6_run 16 [some (.ref x), l1, l2, l3, l4] st σ = den mX6_run 17 [some (.ref x), l1, l2, l3, l4] (.ref x :: st) σ) ∧
  (∀ (l0 l1 l2 l3 l4 : Option Value) (q : Nat) (st : List Value) (σ : dS), den mX6_run 17 [l0, l1, l2, l3, l4] (.ref q :: st) σ = (dget σ q 5 1).bind fun v => den mX6_run 20 [l0, l1, l2, l3, l4] (v :: st) σ) ∧
  (∀ (l1 l2 l3 l4 : Option Value) (x : Nat) (st : List Value) (σ : dS), den mX6_run 20 [some (.ref x), l1, l2, l3, l4] st σ = den mX6_run 21 [some (.ref x), l1, l2, l3, l4] (.ref x :: st) σ) ∧
  (∀ (l0 l1 l2 l3 l4 : Option Value) (b0 : Nat) (b1 : Nat) (q : Nat) (σ : dS), den mX6_run 21 [l0, l1, l2, l3, l4] [.ref q, .ref b0, .ref b1] σ = if disO σ q 5 = true then ((dcall mX6_measured [.ref q] σ).bind fun r => den mX6_run 24 [l0, l1, l2, l3, l4] (r.1.toList ++ [.ref b0, .ref b1]) r.2) else none) ∧
  (∀ (l0 l1 l2 l3 l4 : Option Value) (a0 : Nat) (a1 : Nat) (q : Nat) (σ : dS), den mX6_run 24 [l0, l1, l2, l3, l4] [.ref a1, .ref a0, .ref q] σ = if disO σ q 1 = true then ((dcall mX2_doAll [.ref q, .ref a0, .ref a1] σ).bind fun r => den mX6_run 27 [l0, l1, l2, l3, l4] (r.1.toList ++ []) r.2) else none) ∧
  (∀ (l1 l2 l3 l4 : Option Value) (x : Nat) (st : List Value) (σ : dS), den mX6_run 27 [some (.ref x), l1, l2, l3, l4] st σ = den mX6_run 28 [some (.ref x), l1, l2, l3, l4] (.ref x :: st) σ) ∧
  (∀ (l0 l1 l2 l3 l4 : Option Value) (st : List Value) (σ : dS), den mX6_run 28 [l0, l1, l2, l3, l4] st σ = den mX6_run 29 [l0, l1, l2, l3, l4] (.int (nI 1) :: st) σ) ∧
  (∀ (l0 l1 l2 l3 l4 : Option Value) (x : Int32) (q : Nat) (st : List Value) (σ : dS), den mX6_run 29 [l0, l1, l2, l3, l4] (.int x :: .ref q :: st) σ = if x = 0 ∨ x = 1 then ((dput σ q 5 8 (.int x)).bind fun τ => den mX6_run 32 [l0, l1, l2, l3, l4] st τ) else none) ∧
  (∀ (l1 l2 l3 l4 : Option Value) (x : Nat) (st : List Value) (σ : dS), den mX6_run 32 [some (.ref x), l1, l2, l3, l4] st σ = den mX6_run 33 [some (.ref x), l1, l2, l3, l4] (.ref x :: st) σ) ∧
  (∀ (l0 l1 l2 l3 l4 : Option Value) (q : Nat) (st : List Value) (σ : dS), den mX6_run 33 [l0, l1, l2, l3, l4] (.ref q :: st) σ = (dget σ q 5 5).bind fun v => den mX6_run 36 [l0, l1, l2, l3, l4] (v :: st) σ) ∧
  (∀ (l0 l1 l2 l3 l4 : Option Value) (q : Nat) (st : List Value) (σ : dS), den mX6_run 36 [l0, l1, l2, l3, l4] (.ref q :: st) σ = (dget σ q 1 5).bind fun v => den mX6_run 39 [l0, l1, l2, l3, l4] (v :: st) σ) ∧
  (∀ (l0 l1 l2 l3 l4 : Option Value) (st : List Value) (σ : dS), den mX6_run 39 [l0, l1, l2, l3, l4] st σ = den mX6_run 41 [l0, l1, l2, l3, l4] (.int ((-4)) :: st) σ) ∧
  (∀ (l0 l1 l2 l3 l4 : Option Value) (x y : Int32) (st : List Value) (σ : dS), den mX6_run 41 [l0, l1, l2, l3, l4] (.int y :: .int x :: st) σ = if x = y then den mX6_run 44 [l0, l1, l2, l3, l4] st σ else den mX6_run 54 [l0, l1, l2, l3, l4] st σ) ∧
  (∀ (l1 l2 l3 l4 : Option Value) (x : Nat) (st : List Value) (σ : dS), den mX6_run 44 [some (.ref x), l1, l2, l3, l4] st σ = den mX6_run 45 [some (.ref x), l1, l2, l3, l4] (.ref x :: st) σ) ∧
  (∀ (l0 l1 l2 l3 l4 : Option Value) (q : Nat) (st : List Value) (σ : dS), den mX6_run 45 [l0, l1, l2, l3, l4] (.ref q :: st) σ = (dget σ q 5 5).bind fun v => den mX6_run 48 [l0, l1, l2, l3, l4] (v :: st) σ) ∧
  (∀ (l0 l1 l2 l3 l4 : Option Value) (q : Nat) (st : List Value) (σ : dS), den mX6_run 48 [l0, l1, l2, l3, l4] (.ref q :: st) σ = (dget σ q 1 3).bind fun v => den mX6_run 51 [l0, l1, l2, l3, l4] (v :: st) σ) ∧
  (∀ (l0 l1 l2 l3 l4 : Option Value) (st : List Value) (σ : dS), den mX6_run 51 [l0, l1, l2, l3, l4] st σ = den mX6_run 64 [l0, l1, l2, l3, l4] st σ) ∧
  (∀ (l0 l1 l2 l3 l4 : Option Value) (st : List Value) (σ : dS), den mX6_run 54 [l0, l1, l2, l3, l4] st σ = den mX6_run 56 [l0, l1, l2, l3, l4] (.int ((-10)) :: st) σ) ∧
  (∀ (l1 l2 l3 l4 : Option Value) (x : Nat) (st : List Value) (σ : dS), den mX6_run 56 [some (.ref x), l1, l2, l3, l4] st σ = den mX6_run 57 [some (.ref x), l1, l2, l3, l4] (.ref x :: st) σ) ∧
  (∀ (l0 l1 l2 l3 l4 : Option Value) (q : Nat) (st : List Value) (σ : dS), den mX6_run 57 [l0, l1, l2, l3, l4] (.ref q :: st) σ = (dget σ q 5 5).bind fun v => den mX6_run 60 [l0, l1, l2, l3, l4] (v :: st) σ) ∧
  (∀ (l0 l1 l2 l3 l4 : Option Value) (q : Nat) (st : List Value) (σ : dS), den mX6_run 60 [l0, l1, l2, l3, l4] (.ref q :: st) σ = (dget σ q 1 5).bind fun v => den mX6_run 63 [l0, l1, l2, l3, l4] (v :: st) σ) ∧
  (∀ (l0 l1 l2 l3 l4 : Option Value) (x y : Int32) (st : List Value) (σ : dS), den mX6_run 63 [l0, l1, l2, l3, l4] (.int y :: .int x :: st) σ = den mX6_run 64 [l0, l1, l2, l3, l4] (.int (x - y) :: st) σ) ∧
  (∀ (l0 l1 l2 l3 l4 : Option Value) (v : Int32) (σ : dS), den mX6_run 64 [l0, l1, l2, l3, l4] [.int v] σ = some (some (.int v), σ)) :=
  ⟨fun l1 l2 l3 l4 x st σ => dn_aload_n eX6_run dX6_run_0 rfl,
  fun l0 l1 l2 l3 l4 q st σ => dn_getfield (f := (5, 5, 264)) eX6_run dX6_run_1 (by decide +kernel),
  fun l0 l2 l3 l4 x st σ => dn_iload_n eX6_run dX6_run_4 rfl,
  fun l0 l1 l3 l4 x st σ => dn_iload_n eX6_run dX6_run_5 rfl,
  fun l0 l1 l2 l4 x st σ => dn_iload_n eX6_run dX6_run_6 rfl,
  fun l0 l1 l2 l3 x st σ => dn_iload eX6_run dX6_run_7 rfl,
  fun l0 l1 l2 l3 l4 a0 a1 a2 a3 q σ => rX6_run_9 l0 l1 l2 l3 l4 a0 a1 a2 a3 q σ,
  fun l1 l2 l3 l4 x st σ => dn_aload_n eX6_run dX6_run_12 rfl,
  fun l0 l1 l2 l3 l4 q st σ => dn_getfield (f := (5, 5, 264)) eX6_run dX6_run_13 (by decide +kernel),
  fun l1 l2 l3 l4 x st σ => dn_aload_n eX6_run dX6_run_16 rfl,
  fun l0 l1 l2 l3 l4 q st σ => dn_getfield (f := (5, 1, 260)) eX6_run dX6_run_17 (by decide +kernel),
  fun l1 l2 l3 l4 x st σ => dn_aload_n eX6_run dX6_run_20 rfl,
  fun l0 l1 l2 l3 l4 b0 b1 q σ => rX6_run_21 l0 l1 l2 l3 l4 b0 b1 q σ,
  fun l0 l1 l2 l3 l4 a0 a1 q σ => rX6_run_24 l0 l1 l2 l3 l4 a0 a1 q σ,
  fun l1 l2 l3 l4 x st σ => dn_aload_n eX6_run dX6_run_27 rfl,
  fun l0 l1 l2 l3 l4 st σ => dn_iconst eX6_run dX6_run_28 kc_iconst_1,
  fun l0 l1 l2 l3 l4 x q st σ => dn_putfieldZ (f := (5, 8, 267)) eX6_run dX6_run_29 (by decide +kernel) (by decide +kernel),
  fun l1 l2 l3 l4 x st σ => dn_aload_n eX6_run dX6_run_32 rfl,
  fun l0 l1 l2 l3 l4 q st σ => dn_getfield (f := (5, 5, 264)) eX6_run dX6_run_33 (by decide +kernel),
  fun l0 l1 l2 l3 l4 q st σ => dn_getfield (f := (1, 5, 226)) eX6_run dX6_run_36 (by decide +kernel),
  fun l0 l1 l2 l3 l4 st σ => dn_bipush eX6_run dX6_run_39 kc_bipush_m4,
  fun l0 l1 l2 l3 l4 x y st σ => dn_icmp_ne eX6_run dX6_run_41 (by decide),
  fun l1 l2 l3 l4 x st σ => dn_aload_n eX6_run dX6_run_44 rfl,
  fun l0 l1 l2 l3 l4 q st σ => dn_getfield (f := (5, 5, 264)) eX6_run dX6_run_45 (by decide +kernel),
  fun l0 l1 l2 l3 l4 q st σ => dn_getfield (f := (1, 3, 222)) eX6_run dX6_run_48 (by decide +kernel),
  fun l0 l1 l2 l3 l4 st σ => dn_goto eX6_run dX6_run_51 (by decide),
  fun l0 l1 l2 l3 l4 st σ => dn_bipush eX6_run dX6_run_54 kc_bipush_m10,
  fun l1 l2 l3 l4 x st σ => dn_aload_n eX6_run dX6_run_56 rfl,
  fun l0 l1 l2 l3 l4 q st σ => dn_getfield (f := (5, 5, 264)) eX6_run dX6_run_57 (by decide +kernel),
  fun l0 l1 l2 l3 l4 q st σ => dn_getfield (f := (1, 5, 226)) eX6_run dX6_run_60 (by decide +kernel),
  fun l0 l1 l2 l3 l4 x y st σ => dn_isub eX6_run dX6_run_63,
  fun l0 l1 l2 l3 l4 v σ => dn_ireturn eX6_run dX6_run_64 rfl⟩
theorem CX6_value (a0 : Nat) (a1 : Int32) (σ : dS) : dcall mX6_value [.ref a0, .int a1] σ = den mX6_value 0 [some (.ref a0), some (.int a1)] [] σ := dcall_den (by decide) rfl
set_option maxRecDepth 20000 in
theorem SX6_value : (∀ (l0 : Option Value) (x : Int32) (st : List Value) (σ : dS), den mX6_value 0 [l0, some (.int x)] st σ = den mX6_value 1 [l0, some (.int x)] (.int x :: st) σ) ∧
  (∀ (l0 l1 : Option Value) (x : Int32) (st : List Value) (σ : dS), den mX6_value 1 [l0, l1] (.int x :: st) σ = if x < 0 then den mX6_value 10 [l0, l1] st σ else den mX6_value 4 [l0, l1] st σ) ∧
  (∀ (l0 : Option Value) (x : Int32) (st : List Value) (σ : dS), den mX6_value 4 [l0, some (.int x)] st σ = den mX6_value 5 [l0, some (.int x)] (.int x :: st) σ) ∧
  (∀ (l0 l1 : Option Value) (st : List Value) (σ : dS), den mX6_value 5 [l0, l1] st σ = den mX6_value 7 [l0, l1] (.int (nI 8) :: st) σ) ∧
  (∀ (l0 l1 : Option Value) (x y : Int32) (st : List Value) (σ : dS), den mX6_value 7 [l0, l1] (.int y :: .int x :: st) σ = if x < y then den mX6_value 12 [l0, l1] st σ else den mX6_value 10 [l0, l1] st σ) ∧
  (∀ (l0 l1 : Option Value) (st : List Value) (σ : dS), den mX6_value 10 [l0, l1] st σ = den mX6_value 11 [l0, l1] (.int ((-1)) :: st) σ) ∧
  (∀ (l0 l1 : Option Value) (v : Int32) (σ : dS), den mX6_value 11 [l0, l1] [.int v] σ = some (some (.int v), σ)) ∧
  (∀ (l1 : Option Value) (x : Nat) (st : List Value) (σ : dS), den mX6_value 12 [some (.ref x), l1] st σ = den mX6_value 13 [some (.ref x), l1] (.ref x :: st) σ) ∧
  (∀ (l0 l1 : Option Value) (q : Nat) (st : List Value) (σ : dS), den mX6_value 13 [l0, l1] (.ref q :: st) σ = (dget σ q 5 8).bind fun v => den mX6_value 16 [l0, l1] (v :: st) σ) ∧
  (∀ (l0 l1 : Option Value) (x : Int32) (st : List Value) (σ : dS), den mX6_value 16 [l0, l1] (.int x :: st) σ = if x = 0 then den mX6_value 31 [l0, l1] st σ else den mX6_value 19 [l0, l1] st σ) ∧
  (∀ (l1 : Option Value) (x : Nat) (st : List Value) (σ : dS), den mX6_value 19 [some (.ref x), l1] st σ = den mX6_value 20 [some (.ref x), l1] (.ref x :: st) σ) ∧
  (∀ (l0 l1 : Option Value) (q : Nat) (st : List Value) (σ : dS), den mX6_value 20 [l0, l1] (.ref q :: st) σ = (dget σ q 5 5).bind fun v => den mX6_value 23 [l0, l1] (v :: st) σ) ∧
  (∀ (l0 l1 : Option Value) (q : Nat) (st : List Value) (σ : dS), den mX6_value 23 [l0, l1] (.ref q :: st) σ = (dget σ q 1 0).bind fun v => den mX6_value 26 [l0, l1] (v :: st) σ) ∧
  (∀ (l0 : Option Value) (x : Int32) (st : List Value) (σ : dS), den mX6_value 26 [l0, some (.int x)] st σ = den mX6_value 27 [l0, some (.int x)] (.int x :: st) σ) ∧
  (∀ (l0 l1 : Option Value) (q : Nat) (i : Int32) (st : List Value) (σ : dS), den mX6_value 27 [l0, l1] (.int i :: .ref q :: st) σ = if q ≤ dN then (dald σ q 0 i).bind (fun v => den mX6_value 28 [l0, l1] (.int v :: st) σ) else none) ∧
  (∀ (l0 l1 : Option Value) (st : List Value) (σ : dS), den mX6_value 28 [l0, l1] st σ = den mX6_value 32 [l0, l1] st σ) ∧
  (∀ (l0 l1 : Option Value) (st : List Value) (σ : dS), den mX6_value 31 [l0, l1] st σ = den mX6_value 32 [l0, l1] (.int (nI 0) :: st) σ) ∧
  (∀ (l0 l1 : Option Value) (v : Int32) (σ : dS), den mX6_value 32 [l0, l1] [.int v] σ = some (some (.int v), σ)) :=
  ⟨fun l0 x st σ => dn_iload_n eX6_value dX6_value_0 rfl,
  fun l0 l1 x st σ => dn_if_lt eX6_value dX6_value_1 (by decide),
  fun l0 x st σ => dn_iload_n eX6_value dX6_value_4 rfl,
  fun l0 l1 st σ => dn_bipush eX6_value dX6_value_5 kc_bipush_8,
  fun l0 l1 x y st σ => dn_icmp_lt eX6_value dX6_value_7 (by decide),
  fun l0 l1 st σ => dn_iconst eX6_value dX6_value_10 kc_iconst_m1,
  fun l0 l1 v σ => dn_ireturn eX6_value dX6_value_11 rfl,
  fun l1 x st σ => dn_aload_n eX6_value dX6_value_12 rfl,
  fun l0 l1 q st σ => dn_getfield (f := (5, 8, 267)) eX6_value dX6_value_13 (by decide +kernel),
  fun l0 l1 x st σ => dn_if_eq eX6_value dX6_value_16 (by decide),
  fun l1 x st σ => dn_aload_n eX6_value dX6_value_19 rfl,
  fun l0 l1 q st σ => dn_getfield (f := (5, 5, 264)) eX6_value dX6_value_20 (by decide +kernel),
  fun l0 l1 q st σ => dn_getfield (f := (1, 0, 218)) eX6_value dX6_value_23 (by decide +kernel),
  fun l0 x st σ => dn_iload_n eX6_value dX6_value_26 rfl,
  fun l0 l1 q i st σ => dn_iaload eX6_value dX6_value_27,
  fun l0 l1 st σ => dn_goto eX6_value dX6_value_28 (by decide),
  fun l0 l1 st σ => dn_iconst eX6_value dX6_value_31 kc_iconst_0,
  fun l0 l1 v σ => dn_ireturn eX6_value dX6_value_32 rfl⟩
theorem CX6_spent (a0 : Nat) (σ : dS) : dcall mX6_spent [.ref a0] σ = den mX6_spent 0 [some (.ref a0)] [] σ := dcall_den (by decide) rfl
set_option maxRecDepth 20000 in
theorem SX6_spent : (∀ (x : Nat) (st : List Value) (σ : dS), den mX6_spent 0 [some (.ref x)] st σ = den mX6_spent 1 [some (.ref x)] (.ref x :: st) σ) ∧
  (∀ (l0 : Option Value) (q : Nat) (st : List Value) (σ : dS), den mX6_spent 1 [l0] (.ref q :: st) σ = (dget σ q 5 8).bind fun v => den mX6_spent 4 [l0] (v :: st) σ) ∧
  (∀ (l0 : Option Value) (x : Int32) (st : List Value) (σ : dS), den mX6_spent 4 [l0] (.int x :: st) σ = if x = 0 then den mX6_spent 17 [l0] st σ else den mX6_spent 7 [l0] st σ) ∧
  (∀ (x : Nat) (st : List Value) (σ : dS), den mX6_spent 7 [some (.ref x)] st σ = den mX6_spent 8 [some (.ref x)] (.ref x :: st) σ) ∧
  (∀ (l0 : Option Value) (q : Nat) (st : List Value) (σ : dS), den mX6_spent 8 [l0] (.ref q :: st) σ = (dget σ q 5 5).bind fun v => den mX6_spent 11 [l0] (v :: st) σ) ∧
  (∀ (l0 : Option Value) (q : Nat) (st : List Value) (σ : dS), den mX6_spent 11 [l0] (.ref q :: st) σ = (dget σ q 1 4).bind fun v => den mX6_spent 14 [l0] (v :: st) σ) ∧
  (∀ (l0 : Option Value) (st : List Value) (σ : dS), den mX6_spent 14 [l0] st σ = den mX6_spent 19 [l0] st σ) ∧
  (∀ (l0 : Option Value) (st : List Value) (σ : dS), den mX6_spent 17 [l0] st σ = den mX6_spent 19 [l0] (.int ((-4)) :: st) σ) ∧
  (∀ (l0 : Option Value) (v : Int32) (σ : dS), den mX6_spent 19 [l0] [.int v] σ = some (some (.int v), σ)) :=
  ⟨fun x st σ => dn_aload_n eX6_spent dX6_spent_0 rfl,
  fun l0 q st σ => dn_getfield (f := (5, 8, 267)) eX6_spent dX6_spent_1 (by decide +kernel),
  fun l0 x st σ => dn_if_eq eX6_spent dX6_spent_4 (by decide),
  fun x st σ => dn_aload_n eX6_spent dX6_spent_7 rfl,
  fun l0 q st σ => dn_getfield (f := (5, 5, 264)) eX6_spent dX6_spent_8 (by decide +kernel),
  fun l0 q st σ => dn_getfield (f := (1, 4, 224)) eX6_spent dX6_spent_11 (by decide +kernel),
  fun l0 st σ => dn_goto eX6_spent dX6_spent_14 (by decide),
  fun l0 st σ => dn_bipush eX6_spent dX6_spent_17 kc_bipush_m4,
  fun l0 v σ => dn_ireturn eX6_spent dX6_spent_19 rfl⟩
theorem CX6_runs (a0 : Nat) (a1 : Int32) (a2 : Int32) (a3 : Int32) (σ : dS) : dcall mX6_runs [.ref a0, .int a1, .int a2, .int a3] σ = den mX6_runs 0 [some (.ref a0), some (.int a1), some (.int a2), some (.int a3), none, none, none, none, none] [] σ := dcall_den (by decide) rfl
theorem rX6_runs_23 (l0 l1 l2 l3 l4 l5 l6 l7 l8 : Option Value) (q : Nat) (σ : dS) : den mX6_runs 23 [l0, l1, l2, l3, l4, l5, l6, l7, l8] [.ref q] σ = if disO σ q 5 = true then ((dcall mX6_measured [.ref q] σ).bind fun r => den mX6_runs 26 [l0, l1, l2, l3, l4, l5, l6, l7, l8] (r.1.toList ++ []) r.2) else none := by
  by_cases h : disO σ q 5 = true
  · rw [if_pos h]; exact dn_callV (e := (0, 72, 457)) (as := []) (rest := []) eX6_runs dX6_runs_23 (by decide +kernel) rfl (by decide +kernel) rfl (dcat_le rfl) (dlen_le rfl) rfl h
  · rw [if_neg h]; exact den_noV (e := (0, 72, 457)) (as := []) (rest := []) eX6_runs dX6_runs_23 (by decide +kernel) rfl rfl rfl h
theorem hX6_runs_40 (l0 l1 l2 l3 l4 l5 l6 l7 : Option Value) (x : Int32) (st : List Value) (σ : dS) : den mX6_runs 40 [l0, l1, l2, l3, l4, l5, l6, l7, some (.int x)] st σ = den mX6_runs 42 [l0, l1, l2, l3, l4, l5, l6, l7, some (.int x)] (.int x :: st) σ := dn_iload eX6_runs dX6_runs_40 rfl
theorem rX6_runs_52 (l0 l1 l2 l3 l4 l5 l6 l7 l8 : Option Value) (a0 : Int32) (q : Nat) (σ : dS) : den mX6_runs 52 [l0, l1, l2, l3, l4, l5, l6, l7, l8] [.int a0, .ref q] σ = if disO σ q 1 = true then ((dcall mX2_beginBySeed [.ref q, .int a0] σ).bind fun r => den mX6_runs 55 [l0, l1, l2, l3, l4, l5, l6, l7, l8] (r.1.toList ++ []) r.2) else none := by
  by_cases h : disO σ q 1 = true
  · rw [if_pos h]; exact dn_callV (e := (0, 19, 589)) (as := [.int a0]) (rest := []) eX6_runs dX6_runs_52 (by decide +kernel) rfl (by decide +kernel) rfl (dcat_le rfl) (dlen_le rfl) rfl h
  · rw [if_neg h]; exact den_noV (e := (0, 19, 589)) (as := [.int a0]) (rest := []) eX6_runs dX6_runs_52 (by decide +kernel) rfl rfl rfl h
theorem rX6_runs_67 (l0 l1 l2 l3 l4 l5 l6 l7 l8 : Option Value) (a0 : Nat) (a1 : Nat) (q : Nat) (σ : dS) : den mX6_runs 67 [l0, l1, l2, l3, l4, l5, l6, l7, l8] [.ref a1, .ref a0, .ref q] σ = if disO σ q 1 = true then ((dcall mX2_doAll [.ref q, .ref a0, .ref a1] σ).bind fun r => den mX6_runs 70 [l0, l1, l2, l3, l4, l5, l6, l7, l8] (r.1.toList ++ []) r.2) else none := by
  by_cases h : disO σ q 1 = true
  · rw [if_pos h]; exact dn_callV (e := (0, 23, 562)) (as := [.ref a0, .ref a1]) (rest := []) eX6_runs dX6_runs_67 (by decide +kernel) rfl (by decide +kernel) rfl (dcat_le rfl) (dlen_le rfl) rfl h
  · rw [if_neg h]; exact den_noV (e := (0, 23, 562)) (as := [.ref a0, .ref a1]) (rest := []) eX6_runs dX6_runs_67 (by decide +kernel) rfl rfl rfl h
set_option maxRecDepth 20000 in
theorem SX6_runs_0 : (∀ (l0 l1 l3 l4 l5 l6 l7 l8 : Option Value) (x : Int32) (st : List Value) (σ : dS), den mX6_runs 0 [l0, l1, some (.int x), l3, l4, l5, l6, l7, l8] st σ = den mX6_runs 1 [l0, l1, some (.int x), l3, l4, l5, l6, l7, l8] (.int x :: st) σ) ∧
  (∀ (l0 l1 l2 l3 l4 l5 l6 l7 l8 : Option Value) (st : List Value) (σ : dS), den mX6_runs 1 [l0, l1, l2, l3, l4, l5, l6, l7, l8] st σ = den mX6_runs 2 [l0, l1, l2, l3, l4, l5, l6, l7, l8] (.int (nI 1) :: st) σ) ∧
  (∀ (l0 l1 l2 l3 l4 l5 l6 l7 l8 : Option Value) (x y : Int32) (st : List Value) (σ : dS), den mX6_runs 2 [l0, l1, l2, l3, l4, l5, l6, l7, l8] (.int y :: .int x :: st) σ = if x < y then den mX6_runs 20 [l0, l1, l2, l3, l4, l5, l6, l7, l8] st σ else den mX6_runs 5 [l0, l1, l2, l3, l4, l5, l6, l7, l8] st σ) ∧
  (∀ (l0 l1 l3 l4 l5 l6 l7 l8 : Option Value) (x : Int32) (st : List Value) (σ : dS), den mX6_runs 5 [l0, l1, some (.int x), l3, l4, l5, l6, l7, l8] st σ = den mX6_runs 6 [l0, l1, some (.int x), l3, l4, l5, l6, l7, l8] (.int x :: st) σ) ∧
  (∀ (l0 l1 l2 l3 l4 l5 l6 l7 l8 : Option Value) (st : List Value) (σ : dS), den mX6_runs 6 [l0, l1, l2, l3, l4, l5, l6, l7, l8] st σ = den mX6_runs 8 [l0, l1, l2, l3, l4, l5, l6, l7, l8] (.int (nI 100) :: st) σ) ∧
  (∀ (l0 l1 l2 l3 l4 l5 l6 l7 l8 : Option Value) (x y : Int32) (st : List Value) (σ : dS), den mX6_runs 8 [l0, l1, l2, l3, l4, l5, l6, l7, l8] (.int y :: .int x :: st) σ = if y < x then den mX6_runs 20 [l0, l1, l2, l3, l4, l5, l6, l7, l8] st σ else den mX6_runs 11 [l0, l1, l2, l3, l4, l5, l6, l7, l8] st σ) ∧
  (∀ (l0 l1 l2 l4 l5 l6 l7 l8 : Option Value) (x : Int32) (st : List Value) (σ : dS), den mX6_runs 11 [l0, l1, l2, some (.int x), l4, l5, l6, l7, l8] st σ = den mX6_runs 12 [l0, l1, l2, some (.int x), l4, l5, l6, l7, l8] (.int x :: st) σ) ∧
  (∀ (l0 l1 l2 l3 l4 l5 l6 l7 l8 : Option Value) (x : Int32) (st : List Value) (σ : dS), den mX6_runs 12 [l0, l1, l2, l3, l4, l5, l6, l7, l8] (.int x :: st) σ = if x < 0 then den mX6_runs 20 [l0, l1, l2, l3, l4, l5, l6, l7, l8] st σ else den mX6_runs 15 [l0, l1, l2, l3, l4, l5, l6, l7, l8] st σ) ∧
  (∀ (l0 l1 l2 l4 l5 l6 l7 l8 : Option Value) (x : Int32) (st : List Value) (σ : dS), den mX6_runs 15 [l0, l1, l2, some (.int x), l4, l5, l6, l7, l8] st σ = den mX6_runs 16 [l0, l1, l2, some (.int x), l4, l5, l6, l7, l8] (.int x :: st) σ) ∧
  (∀ (l0 l1 l2 l3 l4 l5 l6 l7 l8 : Option Value) (st : List Value) (σ : dS), den mX6_runs 16 [l0, l1, l2, l3, l4, l5, l6, l7, l8] st σ = den mX6_runs 17 [l0, l1, l2, l3, l4, l5, l6, l7, l8] (.int (nI 1) :: st) σ) ∧
  (∀ (l0 l1 l2 l3 l4 l5 l6 l7 l8 : Option Value) (x y : Int32) (st : List Value) (σ : dS), den mX6_runs 17 [l0, l1, l2, l3, l4, l5, l6, l7, l8] (.int y :: .int x :: st) σ = if y < x then den mX6_runs 20 [l0, l1, l2, l3, l4, l5, l6, l7, l8] st σ else den mX6_runs 22 [l0, l1, l2, l3, l4, l5, l6, l7, l8] st σ) ∧
  (∀ (l0 l1 l2 l3 l4 l5 l6 l7 l8 : Option Value) (st : List Value) (σ : dS), den mX6_runs 20 [l0, l1, l2, l3, l4, l5, l6, l7, l8] st σ = den mX6_runs 21 [l0, l1, l2, l3, l4, l5, l6, l7, l8] (.int ((-1)) :: st) σ) ∧
  (∀ (l0 l1 l2 l3 l4 l5 l6 l7 l8 : Option Value) (v : Int32) (σ : dS), den mX6_runs 21 [l0, l1, l2, l3, l4, l5, l6, l7, l8] [.int v] σ = some (some (.int v), σ)) ∧
  (∀ (l1 l2 l3 l4 l5 l6 l7 l8 : Option Value) (x : Nat) (st : List Value) (σ : dS), den mX6_runs 22 [some (.ref x), l1, l2, l3, l4, l5, l6, l7, l8] st σ = den mX6_runs 23 [some (.ref x), l1, l2, l3, l4, l5, l6, l7, l8] (.ref x :: st) σ) ∧
  (∀ (l0 l1 l2 l3 l4 l5 l6 l7 l8 : Option Value) (q : Nat) (σ : dS), den mX6_runs 23 [l0, l1, l2, l3, l4, l5, l6, l7, l8] [.ref q] σ = if disO σ q 5 = true then ((dcall mX6_measured [.ref q] σ).bind fun r => den mX6_runs 26 [l0, l1, l2, l3, l4, l5, l6, l7, l8] (r.1.toList ++ []) r.2) else none) ∧
  (∀ (l0 l1 l2 l4 l5 l6 l7 l8 : Option Value) (x : Nat) (y : Int32) (st : List Value) (σ : dS), den mX6_runs 26 [l0, l1, l2, some (.int y), l4, l5, l6, l7, l8] (.ref x :: st) σ = den mX6_runs 28 [l0, l1, l2, some (.int y), some (.ref x), l5, l6, l7, l8] st σ) ∧
  (∀ (l0 l2 l3 l4 l5 l6 l7 l8 : Option Value) (x : Int32) (st : List Value) (σ : dS), den mX6_runs 28 [l0, some (.int x), l2, l3, l4, l5, l6, l7, l8] st σ = den mX6_runs 29 [l0, some (.int x), l2, l3, l4, l5, l6, l7, l8] (.int x :: st) σ) ∧
  (∀ (l0 l1 l2 l3 l5 l6 l7 l8 : Option Value) (x : Int32) (y : Nat) (st : List Value) (σ : dS), den mX6_runs 29 [l0, l1, l2, l3, some (.ref y), l5, l6, l7, l8] (.int x :: st) σ = den mX6_runs 31 [l0, l1, l2, l3, some (.ref y), some (.int x), l6, l7, l8] st σ) ∧
  (∀ (l0 l1 l2 l3 l4 l5 l6 l7 l8 : Option Value) (st : List Value) (σ : dS), den mX6_runs 31 [l0, l1, l2, l3, l4, l5, l6, l7, l8] st σ = den mX6_runs 32 [l0, l1, l2, l3, l4, l5, l6, l7, l8] (.int (nI 0) :: st) σ) ∧
  (∀ (l0 l1 l2 l3 l4 l6 l7 l8 : Option Value) (x : Int32) (y : Int32) (st : List Value) (σ : dS), den mX6_runs 32 [l0, l1, l2, l3, l4, some (.int y), l6, l7, l8] (.int x :: st) σ = den mX6_runs 34 [l0, l1, l2, l3, l4, some (.int y), some (.int x), l7, l8] st σ) ∧
  (∀ (l0 l1 l2 l3 l4 l5 l6 l7 l8 : Option Value) (st : List Value) (σ : dS), den mX6_runs 34 [l0, l1, l2, l3, l4, l5, l6, l7, l8] st σ = den mX6_runs 35 [l0, l1, l2, l3, l4, l5, l6, l7, l8] (.int (nI 0) :: st) σ) ∧
  (∀ (l0 l1 l2 l3 l4 l5 l7 l8 : Option Value) (x : Int32) (y : Int32) (st : List Value) (σ : dS), den mX6_runs 35 [l0, l1, l2, l3, l4, l5, some (.int y), l7, l8] (.int x :: st) σ = den mX6_runs 37 [l0, l1, l2, l3, l4, l5, some (.int y), some (.int x), l8] st σ) ∧
  (∀ (l0 l1 l2 l3 l4 l5 l6 l7 l8 : Option Value) (st : List Value) (σ : dS), den mX6_runs 37 [l0, l1, l2, l3, l4, l5, l6, l7, l8] st σ = den mX6_runs 38 [l0, l1, l2, l3, l4, l5, l6, l7, l8] (.int (nI 0) :: st) σ) ∧
  (∀ (l0 l1 l2 l3 l4 l5 l6 l8 : Option Value) (x : Int32) (y : Int32) (st : List Value) (σ : dS), den mX6_runs 38 [l0, l1, l2, l3, l4, l5, l6, some (.int y), l8] (.int x :: st) σ = den mX6_runs 40 [l0, l1, l2, l3, l4, l5, l6, some (.int y), some (.int x)] st σ) ∧
  (∀ (l0 l1 l3 l4 l5 l6 l7 l8 : Option Value) (x : Int32) (st : List Value) (σ : dS), den mX6_runs 42 [l0, l1, some (.int x), l3, l4, l5, l6, l7, l8] st σ = den mX6_runs 43 [l0, l1, some (.int x), l3, l4, l5, l6, l7, l8] (.int x :: st) σ) ∧
  (∀ (l0 l1 l2 l3 l4 l5 l6 l7 l8 : Option Value) (x y : Int32) (st : List Value) (σ : dS), den mX6_runs 43 [l0, l1, l2, l3, l4, l5, l6, l7, l8] (.int y :: .int x :: st) σ = if x < y then den mX6_runs 46 [l0, l1, l2, l3, l4, l5, l6, l7, l8] st σ else den mX6_runs 113 [l0, l1, l2, l3, l4, l5, l6, l7, l8] st σ) ∧
  (∀ (l1 l2 l3 l4 l5 l6 l7 l8 : Option Value) (x : Nat) (st : List Value) (σ : dS), den mX6_runs 46 [some (.ref x), l1, l2, l3, l4, l5, l6, l7, l8] st σ = den mX6_runs 47 [some (.ref x), l1, l2, l3, l4, l5, l6, l7, l8] (.ref x :: st) σ) ∧
  (∀ (l0 l1 l2 l3 l4 l5 l6 l7 l8 : Option Value) (q : Nat) (st : List Value) (σ : dS), den mX6_runs 47 [l0, l1, l2, l3, l4, l5, l6, l7, l8] (.ref q :: st) σ = (dget σ q 5 6).bind fun v => den mX6_runs 50 [l0, l1, l2, l3, l4, l5, l6, l7, l8] (v :: st) σ) ∧
  (∀ (l0 l1 l2 l3 l4 l6 l7 l8 : Option Value) (x : Int32) (st : List Value) (σ : dS), den mX6_runs 50 [l0, l1, l2, l3, l4, some (.int x), l6, l7, l8] st σ = den mX6_runs 52 [l0, l1, l2, l3, l4, some (.int x), l6, l7, l8] (.int x :: st) σ) ∧
  (∀ (l0 l1 l2 l3 l4 l5 l6 l7 l8 : Option Value) (a0 : Int32) (q : Nat) (σ : dS), den mX6_runs 52 [l0, l1, l2, l3, l4, l5, l6, l7, l8] [.int a0, .ref q] σ = if disO σ q 1 = true then ((dcall mX2_beginBySeed [.ref q, .int a0] σ).bind fun r => den mX6_runs 55 [l0, l1, l2, l3, l4, l5, l6, l7, l8] (r.1.toList ++ []) r.2) else none) ∧
  (∀ (l0 l1 l2 l3 l5 l6 l7 l8 : Option Value) (x : Int32) (y : Nat) (st : List Value) (σ : dS), den mX6_runs 55 [l0, l1, l2, l3, some (.ref y), l5, l6, l7, l8] (.int x :: st) σ = den mX6_runs 57 [l0, l1, l2, l3, some (.ref y), some (.int x), l6, l7, l8] st σ) ∧
  (∀ (l1 l2 l3 l4 l5 l6 l7 l8 : Option Value) (x : Nat) (st : List Value) (σ : dS), den mX6_runs 57 [some (.ref x), l1, l2, l3, l4, l5, l6, l7, l8] st σ = den mX6_runs 58 [some (.ref x), l1, l2, l3, l4, l5, l6, l7, l8] (.ref x :: st) σ) ∧
  (∀ (l0 l1 l2 l3 l4 l5 l6 l7 l8 : Option Value) (q : Nat) (st : List Value) (σ : dS), den mX6_runs 58 [l0, l1, l2, l3, l4, l5, l6, l7, l8] (.ref q :: st) σ = (dget σ q 5 6).bind fun v => den mX6_runs 61 [l0, l1, l2, l3, l4, l5, l6, l7, l8] (v :: st) σ) ∧
  (∀ (l1 l2 l3 l4 l5 l6 l7 l8 : Option Value) (x : Nat) (st : List Value) (σ : dS), den mX6_runs 61 [some (.ref x), l1, l2, l3, l4, l5, l6, l7, l8] st σ = den mX6_runs 62 [some (.ref x), l1, l2, l3, l4, l5, l6, l7, l8] (.ref x :: st) σ) ∧
  (∀ (l0 l1 l2 l3 l4 l5 l6 l7 l8 : Option Value) (q : Nat) (st : List Value) (σ : dS), den mX6_runs 62 [l0, l1, l2, l3, l4, l5, l6, l7, l8] (.ref q :: st) σ = (dget σ q 5 1).bind fun v => den mX6_runs 65 [l0, l1, l2, l3, l4, l5, l6, l7, l8] (v :: st) σ) ∧
  (∀ (l0 l1 l2 l3 l5 l6 l7 l8 : Option Value) (x : Nat) (st : List Value) (σ : dS), den mX6_runs 65 [l0, l1, l2, l3, some (.ref x), l5, l6, l7, l8] st σ = den mX6_runs 67 [l0, l1, l2, l3, some (.ref x), l5, l6, l7, l8] (.ref x :: st) σ) ∧
  (∀ (l0 l1 l2 l3 l4 l5 l6 l7 l8 : Option Value) (a0 : Nat) (a1 : Nat) (q : Nat) (σ : dS), den mX6_runs 67 [l0, l1, l2, l3, l4, l5, l6, l7, l8] [.ref a1, .ref a0, .ref q] σ = if disO σ q 1 = true then ((dcall mX2_doAll [.ref q, .ref a0, .ref a1] σ).bind fun r => den mX6_runs 70 [l0, l1, l2, l3, l4, l5, l6, l7, l8] (r.1.toList ++ []) r.2) else none) ∧
  (∀ (l0 l1 l2 l3 l4 l5 l7 l8 : Option Value) (x : Int32) (st : List Value) (σ : dS), den mX6_runs 70 [l0, l1, l2, l3, l4, l5, some (.int x), l7, l8] st σ = den mX6_runs 72 [l0, l1, l2, l3, l4, l5, some (.int x), l7, l8] (.int x :: st) σ) ∧
  (∀ (l1 l2 l3 l4 l5 l6 l7 l8 : Option Value) (x : Nat) (st : List Value) (σ : dS), den mX6_runs 72 [some (.ref x), l1, l2, l3, l4, l5, l6, l7, l8] st σ = den mX6_runs 73 [some (.ref x), l1, l2, l3, l4, l5, l6, l7, l8] (.ref x :: st) σ) ∧
  (∀ (l0 l1 l2 l3 l4 l5 l6 l7 l8 : Option Value) (q : Nat) (st : List Value) (σ : dS), den mX6_runs 73 [l0, l1, l2, l3, l4, l5, l6, l7, l8] (.ref q :: st) σ = (dget σ q 5 6).bind fun v => den mX6_runs 76 [l0, l1, l2, l3, l4, l5, l6, l7, l8] (v :: st) σ) :=
  ⟨fun l0 l1 l3 l4 l5 l6 l7 l8 x st σ => dn_iload_n eX6_runs dX6_runs_0 rfl,
  fun l0 l1 l2 l3 l4 l5 l6 l7 l8 st σ => dn_iconst eX6_runs dX6_runs_1 kc_iconst_1,
  fun l0 l1 l2 l3 l4 l5 l6 l7 l8 x y st σ => dn_icmp_lt eX6_runs dX6_runs_2 (by decide),
  fun l0 l1 l3 l4 l5 l6 l7 l8 x st σ => dn_iload_n eX6_runs dX6_runs_5 rfl,
  fun l0 l1 l2 l3 l4 l5 l6 l7 l8 st σ => dn_bipush eX6_runs dX6_runs_6 kc_bipush_100,
  fun l0 l1 l2 l3 l4 l5 l6 l7 l8 x y st σ => dn_icmp_gt eX6_runs dX6_runs_8 (by decide),
  fun l0 l1 l2 l4 l5 l6 l7 l8 x st σ => dn_iload_n eX6_runs dX6_runs_11 rfl,
  fun l0 l1 l2 l3 l4 l5 l6 l7 l8 x st σ => dn_if_lt eX6_runs dX6_runs_12 (by decide),
  fun l0 l1 l2 l4 l5 l6 l7 l8 x st σ => dn_iload_n eX6_runs dX6_runs_15 rfl,
  fun l0 l1 l2 l3 l4 l5 l6 l7 l8 st σ => dn_iconst eX6_runs dX6_runs_16 kc_iconst_1,
  fun l0 l1 l2 l3 l4 l5 l6 l7 l8 x y st σ => dn_icmp_le eX6_runs dX6_runs_17 (by decide),
  fun l0 l1 l2 l3 l4 l5 l6 l7 l8 st σ => dn_iconst eX6_runs dX6_runs_20 kc_iconst_m1,
  fun l0 l1 l2 l3 l4 l5 l6 l7 l8 v σ => dn_ireturn eX6_runs dX6_runs_21 rfl,
  fun l1 l2 l3 l4 l5 l6 l7 l8 x st σ => dn_aload_n eX6_runs dX6_runs_22 rfl,
  fun l0 l1 l2 l3 l4 l5 l6 l7 l8 q σ => rX6_runs_23 l0 l1 l2 l3 l4 l5 l6 l7 l8 q σ,
  fun l0 l1 l2 l4 l5 l6 l7 l8 x y st σ => dn_astore eX6_runs dX6_runs_26 rfl,
  fun l0 l2 l3 l4 l5 l6 l7 l8 x st σ => dn_iload_n eX6_runs dX6_runs_28 rfl,
  fun l0 l1 l2 l3 l5 l6 l7 l8 x y st σ => dn_istore eX6_runs dX6_runs_29 rfl,
  fun l0 l1 l2 l3 l4 l5 l6 l7 l8 st σ => dn_iconst eX6_runs dX6_runs_31 kc_iconst_0,
  fun l0 l1 l2 l3 l4 l6 l7 l8 x y st σ => dn_istore eX6_runs dX6_runs_32 rfl,
  fun l0 l1 l2 l3 l4 l5 l6 l7 l8 st σ => dn_iconst eX6_runs dX6_runs_34 kc_iconst_0,
  fun l0 l1 l2 l3 l4 l5 l7 l8 x y st σ => dn_istore eX6_runs dX6_runs_35 rfl,
  fun l0 l1 l2 l3 l4 l5 l6 l7 l8 st σ => dn_iconst eX6_runs dX6_runs_37 kc_iconst_0,
  fun l0 l1 l2 l3 l4 l5 l6 l8 x y st σ => dn_istore eX6_runs dX6_runs_38 rfl,
  fun l0 l1 l3 l4 l5 l6 l7 l8 x st σ => dn_iload_n eX6_runs dX6_runs_42 rfl,
  fun l0 l1 l2 l3 l4 l5 l6 l7 l8 x y st σ => dn_icmp_ge eX6_runs dX6_runs_43 (by decide),
  fun l1 l2 l3 l4 l5 l6 l7 l8 x st σ => dn_aload_n eX6_runs dX6_runs_46 rfl,
  fun l0 l1 l2 l3 l4 l5 l6 l7 l8 q st σ => dn_getfield (f := (5, 6, 265)) eX6_runs dX6_runs_47 (by decide +kernel),
  fun l0 l1 l2 l3 l4 l6 l7 l8 x st σ => dn_iload eX6_runs dX6_runs_50 rfl,
  fun l0 l1 l2 l3 l4 l5 l6 l7 l8 a0 q σ => rX6_runs_52 l0 l1 l2 l3 l4 l5 l6 l7 l8 a0 q σ,
  fun l0 l1 l2 l3 l5 l6 l7 l8 x y st σ => dn_istore eX6_runs dX6_runs_55 rfl,
  fun l1 l2 l3 l4 l5 l6 l7 l8 x st σ => dn_aload_n eX6_runs dX6_runs_57 rfl,
  fun l0 l1 l2 l3 l4 l5 l6 l7 l8 q st σ => dn_getfield (f := (5, 6, 265)) eX6_runs dX6_runs_58 (by decide +kernel),
  fun l1 l2 l3 l4 l5 l6 l7 l8 x st σ => dn_aload_n eX6_runs dX6_runs_61 rfl,
  fun l0 l1 l2 l3 l4 l5 l6 l7 l8 q st σ => dn_getfield (f := (5, 1, 260)) eX6_runs dX6_runs_62 (by decide +kernel),
  fun l0 l1 l2 l3 l5 l6 l7 l8 x st σ => dn_aload eX6_runs dX6_runs_65 rfl,
  fun l0 l1 l2 l3 l4 l5 l6 l7 l8 a0 a1 q σ => rX6_runs_67 l0 l1 l2 l3 l4 l5 l6 l7 l8 a0 a1 q σ,
  fun l0 l1 l2 l3 l4 l5 l7 l8 x st σ => dn_iload eX6_runs dX6_runs_70 rfl,
  fun l1 l2 l3 l4 l5 l6 l7 l8 x st σ => dn_aload_n eX6_runs dX6_runs_72 rfl,
  fun l0 l1 l2 l3 l4 l5 l6 l7 l8 q st σ => dn_getfield (f := (5, 6, 265)) eX6_runs dX6_runs_73 (by decide +kernel)⟩
set_option maxRecDepth 20000 in
theorem SX6_runs_1 : (∀ (l0 l1 l2 l3 l4 l5 l6 l7 l8 : Option Value) (q : Nat) (st : List Value) (σ : dS), den mX6_runs 76 [l0, l1, l2, l3, l4, l5, l6, l7, l8] (.ref q :: st) σ = (dget σ q 1 5).bind fun v => den mX6_runs 79 [l0, l1, l2, l3, l4, l5, l6, l7, l8] (v :: st) σ) ∧
  (∀ (l0 l1 l2 l3 l4 l5 l6 l7 l8 : Option Value) (st : List Value) (σ : dS), den mX6_runs 79 [l0, l1, l2, l3, l4, l5, l6, l7, l8] st σ = den mX6_runs 81 [l0, l1, l2, l3, l4, l5, l6, l7, l8] (.int ((-4)) :: st) σ) ∧
  (∀ (l0 l1 l2 l3 l4 l5 l6 l7 l8 : Option Value) (x y : Int32) (st : List Value) (σ : dS), den mX6_runs 81 [l0, l1, l2, l3, l4, l5, l6, l7, l8] (.int y :: .int x :: st) σ = if x = y then den mX6_runs 84 [l0, l1, l2, l3, l4, l5, l6, l7, l8] st σ else den mX6_runs 88 [l0, l1, l2, l3, l4, l5, l6, l7, l8] st σ) ∧
  (∀ (l0 l1 l2 l3 l4 l5 l6 l7 l8 : Option Value) (st : List Value) (σ : dS), den mX6_runs 84 [l0, l1, l2, l3, l4, l5, l6, l7, l8] st σ = den mX6_runs 85 [l0, l1, l2, l3, l4, l5, l6, l7, l8] (.int (nI 1) :: st) σ) ∧
  (∀ (l0 l1 l2 l3 l4 l5 l6 l7 l8 : Option Value) (st : List Value) (σ : dS), den mX6_runs 85 [l0, l1, l2, l3, l4, l5, l6, l7, l8] st σ = den mX6_runs 89 [l0, l1, l2, l3, l4, l5, l6, l7, l8] st σ) ∧
  (∀ (l0 l1 l2 l3 l4 l5 l6 l7 l8 : Option Value) (st : List Value) (σ : dS), den mX6_runs 88 [l0, l1, l2, l3, l4, l5, l6, l7, l8] st σ = den mX6_runs 89 [l0, l1, l2, l3, l4, l5, l6, l7, l8] (.int (nI 0) :: st) σ) ∧
  (∀ (l0 l1 l2 l3 l4 l5 l6 l7 l8 : Option Value) (a0 : Int32) (b0 : Int32) (σ : dS), den mX6_runs 89 [l0, l1, l2, l3, l4, l5, l6, l7, l8] [.int a0, .int b0] σ = (dcall mX6_oneIf [.int a0] σ).bind fun r => den mX6_runs 92 [l0, l1, l2, l3, l4, l5, l6, l7, l8] (r.1.toList ++ [.int b0]) r.2) ∧
  (∀ (l0 l1 l2 l3 l4 l5 l6 l7 l8 : Option Value) (x y : Int32) (st : List Value) (σ : dS), den mX6_runs 92 [l0, l1, l2, l3, l4, l5, l6, l7, l8] (.int y :: .int x :: st) σ = den mX6_runs 93 [l0, l1, l2, l3, l4, l5, l6, l7, l8] (.int (x + y) :: st) σ) ∧
  (∀ (l0 l1 l2 l3 l4 l6 l7 l8 : Option Value) (x : Int32) (y : Int32) (st : List Value) (σ : dS), den mX6_runs 93 [l0, l1, l2, l3, l4, some (.int y), l6, l7, l8] (.int x :: st) σ = den mX6_runs 95 [l0, l1, l2, l3, l4, some (.int y), some (.int x), l7, l8] st σ) ∧
  (∀ (l0 l1 l2 l3 l4 l5 l6 l8 : Option Value) (x : Int32) (st : List Value) (σ : dS), den mX6_runs 95 [l0, l1, l2, l3, l4, l5, l6, some (.int x), l8] st σ = den mX6_runs 97 [l0, l1, l2, l3, l4, l5, l6, some (.int x), l8] (.int x :: st) σ) ∧
  (∀ (l1 l2 l3 l4 l5 l6 l7 l8 : Option Value) (x : Nat) (st : List Value) (σ : dS), den mX6_runs 97 [some (.ref x), l1, l2, l3, l4, l5, l6, l7, l8] st σ = den mX6_runs 98 [some (.ref x), l1, l2, l3, l4, l5, l6, l7, l8] (.ref x :: st) σ) ∧
  (∀ (l0 l1 l2 l3 l4 l5 l6 l7 l8 : Option Value) (q : Nat) (st : List Value) (σ : dS), den mX6_runs 98 [l0, l1, l2, l3, l4, l5, l6, l7, l8] (.ref q :: st) σ = (dget σ q 5 6).bind fun v => den mX6_runs 101 [l0, l1, l2, l3, l4, l5, l6, l7, l8] (v :: st) σ) ∧
  (∀ (l0 l1 l2 l3 l4 l5 l6 l7 l8 : Option Value) (q : Nat) (st : List Value) (σ : dS), den mX6_runs 101 [l0, l1, l2, l3, l4, l5, l6, l7, l8] (.ref q :: st) σ = (dget σ q 1 4).bind fun v => den mX6_runs 104 [l0, l1, l2, l3, l4, l5, l6, l7, l8] (v :: st) σ) ∧
  (∀ (l0 l1 l2 l3 l4 l5 l6 l7 l8 : Option Value) (x y : Int32) (st : List Value) (σ : dS), den mX6_runs 104 [l0, l1, l2, l3, l4, l5, l6, l7, l8] (.int y :: .int x :: st) σ = den mX6_runs 105 [l0, l1, l2, l3, l4, l5, l6, l7, l8] (.int (x + y) :: st) σ) ∧
  (∀ (l0 l1 l2 l3 l4 l5 l7 l8 : Option Value) (x : Int32) (y : Int32) (st : List Value) (σ : dS), den mX6_runs 105 [l0, l1, l2, l3, l4, l5, some (.int y), l7, l8] (.int x :: st) σ = den mX6_runs 107 [l0, l1, l2, l3, l4, l5, some (.int y), some (.int x), l8] st σ) ∧
  (∀ (l0 l1 l2 l3 l4 l5 l6 : Option Value) (x : Int32) (y : Int32) (st : List Value) (σ : dS), den mX6_runs 107 [l0, l1, l2, l3, l4, l5, l6, some (.int y), some (.int x)] st σ = den mX6_runs 110 [l0, l1, l2, l3, l4, l5, l6, some (.int y), some (.int (x + nI 1))] st σ) ∧
  (∀ (l0 l1 l2 l3 l4 l5 l6 l7 l8 : Option Value) (st : List Value) (σ : dS), den mX6_runs 110 [l0, l1, l2, l3, l4, l5, l6, l7, l8] st σ = den mX6_runs 40 [l0, l1, l2, l3, l4, l5, l6, l7, l8] st σ) ∧
  (∀ (l0 l1 l2 l4 l5 l6 l7 l8 : Option Value) (x : Int32) (st : List Value) (σ : dS), den mX6_runs 113 [l0, l1, l2, some (.int x), l4, l5, l6, l7, l8] st σ = den mX6_runs 114 [l0, l1, l2, some (.int x), l4, l5, l6, l7, l8] (.int x :: st) σ) ∧
  (∀ (l0 l1 l2 l3 l4 l5 l6 l7 l8 : Option Value) (x : Int32) (st : List Value) (σ : dS), den mX6_runs 114 [l0, l1, l2, l3, l4, l5, l6, l7, l8] (.int x :: st) σ = if x = 0 then den mX6_runs 117 [l0, l1, l2, l3, l4, l5, l6, l7, l8] st σ else den mX6_runs 122 [l0, l1, l2, l3, l4, l5, l6, l7, l8] st σ) ∧
  (∀ (l0 l1 l2 l3 l4 l5 l7 l8 : Option Value) (x : Int32) (st : List Value) (σ : dS), den mX6_runs 117 [l0, l1, l2, l3, l4, l5, some (.int x), l7, l8] st σ = den mX6_runs 119 [l0, l1, l2, l3, l4, l5, some (.int x), l7, l8] (.int x :: st) σ) ∧
  (∀ (l0 l1 l2 l3 l4 l5 l6 l7 l8 : Option Value) (st : List Value) (σ : dS), den mX6_runs 119 [l0, l1, l2, l3, l4, l5, l6, l7, l8] st σ = den mX6_runs 124 [l0, l1, l2, l3, l4, l5, l6, l7, l8] st σ) ∧
  (∀ (l0 l1 l2 l3 l4 l5 l6 l8 : Option Value) (x : Int32) (st : List Value) (σ : dS), den mX6_runs 122 [l0, l1, l2, l3, l4, l5, l6, some (.int x), l8] st σ = den mX6_runs 124 [l0, l1, l2, l3, l4, l5, l6, some (.int x), l8] (.int x :: st) σ) ∧
  (∀ (l0 l1 l2 l3 l4 l5 l6 l7 l8 : Option Value) (v : Int32) (σ : dS), den mX6_runs 124 [l0, l1, l2, l3, l4, l5, l6, l7, l8] [.int v] σ = some (some (.int v), σ)) :=
  ⟨fun l0 l1 l2 l3 l4 l5 l6 l7 l8 q st σ => dn_getfield (f := (1, 5, 226)) eX6_runs dX6_runs_76 (by decide +kernel),
  fun l0 l1 l2 l3 l4 l5 l6 l7 l8 st σ => dn_bipush eX6_runs dX6_runs_79 kc_bipush_m4,
  fun l0 l1 l2 l3 l4 l5 l6 l7 l8 x y st σ => dn_icmp_ne eX6_runs dX6_runs_81 (by decide),
  fun l0 l1 l2 l3 l4 l5 l6 l7 l8 st σ => dn_iconst eX6_runs dX6_runs_84 kc_iconst_1,
  fun l0 l1 l2 l3 l4 l5 l6 l7 l8 st σ => dn_goto eX6_runs dX6_runs_85 (by decide),
  fun l0 l1 l2 l3 l4 l5 l6 l7 l8 st σ => dn_iconst eX6_runs dX6_runs_88 kc_iconst_0,
  fun l0 l1 l2 l3 l4 l5 l6 l7 l8 a0 b0 σ => dn_callS (e := (1, 9, 530)) (as := [.int a0]) (rest := [.int b0]) eX6_runs dX6_runs_89 (by decide +kernel) (Or.inl rfl) (by decide +kernel) rfl (dcat_le rfl) (dlen_le rfl) rfl,
  fun l0 l1 l2 l3 l4 l5 l6 l7 l8 x y st σ => dn_iadd eX6_runs dX6_runs_92,
  fun l0 l1 l2 l3 l4 l6 l7 l8 x y st σ => dn_istore eX6_runs dX6_runs_93 rfl,
  fun l0 l1 l2 l3 l4 l5 l6 l8 x st σ => dn_iload eX6_runs dX6_runs_95 rfl,
  fun l1 l2 l3 l4 l5 l6 l7 l8 x st σ => dn_aload_n eX6_runs dX6_runs_97 rfl,
  fun l0 l1 l2 l3 l4 l5 l6 l7 l8 q st σ => dn_getfield (f := (5, 6, 265)) eX6_runs dX6_runs_98 (by decide +kernel),
  fun l0 l1 l2 l3 l4 l5 l6 l7 l8 q st σ => dn_getfield (f := (1, 4, 224)) eX6_runs dX6_runs_101 (by decide +kernel),
  fun l0 l1 l2 l3 l4 l5 l6 l7 l8 x y st σ => dn_iadd eX6_runs dX6_runs_104,
  fun l0 l1 l2 l3 l4 l5 l7 l8 x y st σ => dn_istore eX6_runs dX6_runs_105 rfl,
  fun l0 l1 l2 l3 l4 l5 l6 x y st σ => dn_iinc (v := nI 1) eX6_runs dX6_runs_107 rfl kc_iconst_1 rfl,
  fun l0 l1 l2 l3 l4 l5 l6 l7 l8 st σ => dn_goto eX6_runs dX6_runs_110 (by decide),
  fun l0 l1 l2 l4 l5 l6 l7 l8 x st σ => dn_iload_n eX6_runs dX6_runs_113 rfl,
  fun l0 l1 l2 l3 l4 l5 l6 l7 l8 x st σ => dn_if_ne eX6_runs dX6_runs_114 (by decide),
  fun l0 l1 l2 l3 l4 l5 l7 l8 x st σ => dn_iload eX6_runs dX6_runs_117 rfl,
  fun l0 l1 l2 l3 l4 l5 l6 l7 l8 st σ => dn_goto eX6_runs dX6_runs_119 (by decide),
  fun l0 l1 l2 l3 l4 l5 l6 l8 x st σ => dn_iload eX6_runs dX6_runs_122 rfl,
  fun l0 l1 l2 l3 l4 l5 l6 l7 l8 v σ => dn_ireturn eX6_runs dX6_runs_124 rfl⟩
theorem CX6_wish (a0 : Nat) (a1 : Int32) (a2 : Int32) (σ : dS) : dcall mX6_wish [.ref a0, .int a1, .int a2] σ = den mX6_wish 0 [some (.ref a0), some (.int a1), some (.int a2)] [] σ := dcall_den (by decide) rfl
theorem rX6_wish_5 (l0 l1 l2 : Option Value) (a0 : Int32) (q : Nat) (σ : dS) : den mX6_wish 5 [l0, l1, l2] [.int a0, .ref q] σ = if disO σ q 2 = true then ((dcall mX3_hasIf [.ref q, .int a0] σ).bind fun r => den mX6_wish 8 [l0, l1, l2] (r.1.toList ++ []) r.2) else none := by
  by_cases h : disO σ q 2 = true
  · rw [if_pos h]; exact dn_callV (e := (0, 29, 598)) (as := [.int a0]) (rest := []) eX6_wish dX6_wish_5 (by decide +kernel) rfl (by decide +kernel) rfl (dcat_le rfl) (dlen_le rfl) rfl h
  · rw [if_neg h]; exact den_noV (e := (0, 29, 598)) (as := [.int a0]) (rest := []) eX6_wish dX6_wish_5 (by decide +kernel) rfl rfl rfl h
theorem rX6_wish_39 (l0 l1 l2 : Option Value) (q : Nat) (σ : dS) : den mX6_wish 39 [l0, l1, l2] [.ref q] σ = if disO σ q 5 = true then ((dcall mX6_measured [.ref q] σ).bind fun r => den mX6_wish 42 [l0, l1, l2] (r.1.toList ++ []) r.2) else none := by
  by_cases h : disO σ q 5 = true
  · rw [if_pos h]; exact dn_callV (e := (0, 72, 457)) (as := []) (rest := []) eX6_wish dX6_wish_39 (by decide +kernel) rfl (by decide +kernel) rfl (dcat_le rfl) (dlen_le rfl) rfl h
  · rw [if_neg h]; exact den_noV (e := (0, 72, 457)) (as := []) (rest := []) eX6_wish dX6_wish_39 (by decide +kernel) rfl rfl rfl h
set_option maxRecDepth 20000 in
theorem SX6_wish : (∀ (l1 l2 : Option Value) (x : Nat) (st : List Value) (σ : dS), den mX6_wish 0 [some (.ref x), l1, l2] st σ = den mX6_wish 1 [some (.ref x), l1, l2] (.ref x :: st) σ) ∧
  (∀ (l0 l1 l2 : Option Value) (q : Nat) (st : List Value) (σ : dS), den mX6_wish 1 [l0, l1, l2] (.ref q :: st) σ = (dget σ q 5 1).bind fun v => den mX6_wish 4 [l0, l1, l2] (v :: st) σ) ∧
  (∀ (l0 l2 : Option Value) (x : Int32) (st : List Value) (σ : dS), den mX6_wish 4 [l0, some (.int x), l2] st σ = den mX6_wish 5 [l0, some (.int x), l2] (.int x :: st) σ) ∧
  (∀ (l0 l1 l2 : Option Value) (a0 : Int32) (q : Nat) (σ : dS), den mX6_wish 5 [l0, l1, l2] [.int a0, .ref q] σ = if disO σ q 2 = true then ((dcall mX3_hasIf [.ref q, .int a0] σ).bind fun r => den mX6_wish 8 [l0, l1, l2] (r.1.toList ++ []) r.2) else none) ∧
  (∀ (l0 l1 l2 : Option Value) (x : Int32) (st : List Value) (σ : dS), den mX6_wish 8 [l0, l1, l2] (.int x :: st) σ = if x = 0 then den mX6_wish 20 [l0, l1, l2] st σ else den mX6_wish 11 [l0, l1, l2] st σ) ∧
  (∀ (l0 l1 : Option Value) (x : Int32) (st : List Value) (σ : dS), den mX6_wish 11 [l0, l1, some (.int x)] st σ = den mX6_wish 12 [l0, l1, some (.int x)] (.int x :: st) σ) ∧
  (∀ (l0 l1 l2 : Option Value) (x : Int32) (st : List Value) (σ : dS), den mX6_wish 12 [l0, l1, l2] (.int x :: st) σ = if x < 0 then den mX6_wish 20 [l0, l1, l2] st σ else den mX6_wish 15 [l0, l1, l2] st σ) ∧
  (∀ (l0 l1 : Option Value) (x : Int32) (st : List Value) (σ : dS), den mX6_wish 15 [l0, l1, some (.int x)] st σ = den mX6_wish 16 [l0, l1, some (.int x)] (.int x :: st) σ) ∧
  (∀ (l0 l1 l2 : Option Value) (st : List Value) (σ : dS), den mX6_wish 16 [l0, l1, l2] st σ = den mX6_wish 17 [l0, l1, l2] (.int (nI 1) :: st) σ) ∧
  (∀ (l0 l1 l2 : Option Value) (x y : Int32) (st : List Value) (σ : dS), den mX6_wish 17 [l0, l1, l2] (.int y :: .int x :: st) σ = if y < x then den mX6_wish 20 [l0, l1, l2] st σ else den mX6_wish 22 [l0, l1, l2] st σ) ∧
  (∀ (l0 l1 l2 : Option Value) (st : List Value) (σ : dS), den mX6_wish 20 [l0, l1, l2] st σ = den mX6_wish 21 [l0, l1, l2] (.int ((-1)) :: st) σ) ∧
  (∀ (l0 l1 l2 : Option Value) (v : Int32) (σ : dS), den mX6_wish 21 [l0, l1, l2] [.int v] σ = some (some (.int v), σ)) ∧
  (∀ (l0 l1 : Option Value) (x : Int32) (st : List Value) (σ : dS), den mX6_wish 22 [l0, l1, some (.int x)] st σ = den mX6_wish 23 [l0, l1, some (.int x)] (.int x :: st) σ) ∧
  (∀ (l0 l1 l2 : Option Value) (x : Int32) (st : List Value) (σ : dS), den mX6_wish 23 [l0, l1, l2] (.int x :: st) σ = if x = 0 then den mX6_wish 26 [l0, l1, l2] st σ else den mX6_wish 38 [l0, l1, l2] st σ) ∧
  (∀ (l1 l2 : Option Value) (x : Nat) (st : List Value) (σ : dS), den mX6_wish 26 [some (.ref x), l1, l2] st σ = den mX6_wish 27 [some (.ref x), l1, l2] (.ref x :: st) σ) ∧
  (∀ (l0 l1 l2 : Option Value) (q : Nat) (st : List Value) (σ : dS), den mX6_wish 27 [l0, l1, l2] (.ref q :: st) σ = (dget σ q 5 1).bind fun v => den mX6_wish 30 [l0, l1, l2] (v :: st) σ) ∧
  (∀ (l0 l1 l2 : Option Value) (q : Nat) (st : List Value) (σ : dS), den mX6_wish 30 [l0, l1, l2] (.ref q :: st) σ = (dget σ q 2 6).bind fun v => den mX6_wish 33 [l0, l1, l2] (v :: st) σ) ∧
  (∀ (l0 l2 : Option Value) (x : Int32) (st : List Value) (σ : dS), den mX6_wish 33 [l0, some (.int x), l2] st σ = den mX6_wish 34 [l0, some (.int x), l2] (.int x :: st) σ) ∧
  (∀ (l0 l1 l2 : Option Value) (q : Nat) (i : Int32) (st : List Value) (σ : dS), den mX6_wish 34 [l0, l1, l2] (.int i :: .ref q :: st) σ = if q ≤ dN then (dald σ q 0 i).bind (fun v => den mX6_wish 35 [l0, l1, l2] (.int v :: st) σ) else none) ∧
  (∀ (l0 l1 l2 : Option Value) (st : List Value) (σ : dS), den mX6_wish 35 [l0, l1, l2] st σ = den mX6_wish 50 [l0, l1, l2] st σ) ∧
  (∀ (l1 l2 : Option Value) (x : Nat) (st : List Value) (σ : dS), den mX6_wish 38 [some (.ref x), l1, l2] st σ = den mX6_wish 39 [some (.ref x), l1, l2] (.ref x :: st) σ) ∧
  (∀ (l0 l1 l2 : Option Value) (q : Nat) (σ : dS), den mX6_wish 39 [l0, l1, l2] [.ref q] σ = if disO σ q 5 = true then ((dcall mX6_measured [.ref q] σ).bind fun r => den mX6_wish 42 [l0, l1, l2] (r.1.toList ++ []) r.2) else none) ∧
  (∀ (l0 l1 l2 : Option Value) (q : Nat) (st : List Value) (σ : dS), den mX6_wish 42 [l0, l1, l2] (.ref q :: st) σ = (dget σ q 0 3).bind fun v => den mX6_wish 45 [l0, l1, l2] (v :: st) σ) ∧
  (∀ (l0 l2 : Option Value) (x : Int32) (st : List Value) (σ : dS), den mX6_wish 45 [l0, some (.int x), l2] st σ = den mX6_wish 46 [l0, some (.int x), l2] (.int x :: st) σ) ∧
  (∀ (l0 l1 l2 : Option Value) (q : Nat) (i : Int32) (st : List Value) (σ : dS), den mX6_wish 46 [l0, l1, l2] (.int i :: .ref q :: st) σ = (dbld σ q i).bind fun v => den mX6_wish 47 [l0, l1, l2] (.int v :: st) σ) ∧
  (∀ (l0 l1 l2 : Option Value) (a0 : Int32) (σ : dS), den mX6_wish 47 [l0, l1, l2] [.int a0] σ = (dcall mX6_oneIf [.int a0] σ).bind fun r => den mX6_wish 50 [l0, l1, l2] (r.1.toList ++ []) r.2) ∧
  (∀ (l0 l1 l2 : Option Value) (v : Int32) (σ : dS), den mX6_wish 50 [l0, l1, l2] [.int v] σ = some (some (.int v), σ)) :=
  ⟨fun l1 l2 x st σ => dn_aload_n eX6_wish dX6_wish_0 rfl,
  fun l0 l1 l2 q st σ => dn_getfield (f := (5, 1, 260)) eX6_wish dX6_wish_1 (by decide +kernel),
  fun l0 l2 x st σ => dn_iload_n eX6_wish dX6_wish_4 rfl,
  fun l0 l1 l2 a0 q σ => rX6_wish_5 l0 l1 l2 a0 q σ,
  fun l0 l1 l2 x st σ => dn_if_eq eX6_wish dX6_wish_8 (by decide),
  fun l0 l1 x st σ => dn_iload_n eX6_wish dX6_wish_11 rfl,
  fun l0 l1 l2 x st σ => dn_if_lt eX6_wish dX6_wish_12 (by decide),
  fun l0 l1 x st σ => dn_iload_n eX6_wish dX6_wish_15 rfl,
  fun l0 l1 l2 st σ => dn_iconst eX6_wish dX6_wish_16 kc_iconst_1,
  fun l0 l1 l2 x y st σ => dn_icmp_le eX6_wish dX6_wish_17 (by decide),
  fun l0 l1 l2 st σ => dn_iconst eX6_wish dX6_wish_20 kc_iconst_m1,
  fun l0 l1 l2 v σ => dn_ireturn eX6_wish dX6_wish_21 rfl,
  fun l0 l1 x st σ => dn_iload_n eX6_wish dX6_wish_22 rfl,
  fun l0 l1 l2 x st σ => dn_if_ne eX6_wish dX6_wish_23 (by decide),
  fun l1 l2 x st σ => dn_aload_n eX6_wish dX6_wish_26 rfl,
  fun l0 l1 l2 q st σ => dn_getfield (f := (5, 1, 260)) eX6_wish dX6_wish_27 (by decide +kernel),
  fun l0 l1 l2 q st σ => dn_getfield (f := (2, 6, 108)) eX6_wish dX6_wish_30 (by decide +kernel),
  fun l0 l2 x st σ => dn_iload_n eX6_wish dX6_wish_33 rfl,
  fun l0 l1 l2 q i st σ => dn_iaload eX6_wish dX6_wish_34,
  fun l0 l1 l2 st σ => dn_goto eX6_wish dX6_wish_35 (by decide),
  fun l1 l2 x st σ => dn_aload_n eX6_wish dX6_wish_38 rfl,
  fun l0 l1 l2 q σ => rX6_wish_39 l0 l1 l2 q σ,
  fun l0 l1 l2 q st σ => dn_getfield (f := (0, 3, 199)) eX6_wish dX6_wish_42 (by decide +kernel),
  fun l0 l2 x st σ => dn_iload_n eX6_wish dX6_wish_45 rfl,
  fun l0 l1 l2 q i st σ => dn_baload eX6_wish dX6_wish_46,
  fun l0 l1 l2 a0 σ => dn_callS (e := (1, 9, 530)) (as := [.int a0]) (rest := []) eX6_wish dX6_wish_47 (by decide +kernel) (Or.inl rfl) (by decide +kernel) rfl (dcat_le rfl) (dlen_le rfl) rfl,
  fun l0 l1 l2 v σ => dn_ireturn eX6_wish dX6_wish_50 rfl⟩
theorem CX6_want (a0 : Nat) (a1 : Int32) (a2 : Int32) (σ : dS) : dcall mX6_want [.ref a0, .int a1, .int a2] σ = den mX6_want 0 [some (.ref a0), some (.int a1), some (.int a2), none] [] σ := dcall_den (by decide) rfl
theorem rX6_want_5 (l0 l1 l2 l3 : Option Value) (a0 : Int32) (q : Nat) (σ : dS) : den mX6_want 5 [l0, l1, l2, l3] [.int a0, .ref q] σ = if disO σ q 2 = true then ((dcall mX3_hasIf [.ref q, .int a0] σ).bind fun r => den mX6_want 8 [l0, l1, l2, l3] (r.1.toList ++ []) r.2) else none := by
  by_cases h : disO σ q 2 = true
  · rw [if_pos h]; exact dn_callV (e := (0, 29, 598)) (as := [.int a0]) (rest := []) eX6_want dX6_want_5 (by decide +kernel) rfl (by decide +kernel) rfl (dcat_le rfl) (dlen_le rfl) rfl h
  · rw [if_neg h]; exact den_noV (e := (0, 29, 598)) (as := [.int a0]) (rest := []) eX6_want dX6_want_5 (by decide +kernel) rfl rfl rfl h
set_option maxRecDepth 20000 in
theorem SX6_want : (∀ (l1 l2 l3 : Option Value) (x : Nat) (st : List Value) (σ : dS), den mX6_want 0 [some (.ref x), l1, l2, l3] st σ = den mX6_want 1 [some (.ref x), l1, l2, l3] (.ref x :: st) σ) ∧
  (∀ (l0 l1 l2 l3 : Option Value) (q : Nat) (st : List Value) (σ : dS), den mX6_want 1 [l0, l1, l2, l3] (.ref q :: st) σ = (dget σ q 5 1).bind fun v => den mX6_want 4 [l0, l1, l2, l3] (v :: st) σ) ∧
  (∀ (l0 l2 l3 : Option Value) (x : Int32) (st : List Value) (σ : dS), den mX6_want 4 [l0, some (.int x), l2, l3] st σ = den mX6_want 5 [l0, some (.int x), l2, l3] (.int x :: st) σ) ∧
  (∀ (l0 l1 l2 l3 : Option Value) (a0 : Int32) (q : Nat) (σ : dS), den mX6_want 5 [l0, l1, l2, l3] [.int a0, .ref q] σ = if disO σ q 2 = true then ((dcall mX3_hasIf [.ref q, .int a0] σ).bind fun r => den mX6_want 8 [l0, l1, l2, l3] (r.1.toList ++ []) r.2) else none) ∧
  (∀ (l0 l1 l2 l3 : Option Value) (x : Int32) (st : List Value) (σ : dS), den mX6_want 8 [l0, l1, l2, l3] (.int x :: st) σ = if x = 0 then den mX6_want 20 [l0, l1, l2, l3] st σ else den mX6_want 11 [l0, l1, l2, l3] st σ) ∧
  (∀ (l0 l1 l3 : Option Value) (x : Int32) (st : List Value) (σ : dS), den mX6_want 11 [l0, l1, some (.int x), l3] st σ = den mX6_want 12 [l0, l1, some (.int x), l3] (.int x :: st) σ) ∧
  (∀ (l0 l1 l2 l3 : Option Value) (x : Int32) (st : List Value) (σ : dS), den mX6_want 12 [l0, l1, l2, l3] (.int x :: st) σ = if x < 0 then den mX6_want 20 [l0, l1, l2, l3] st σ else den mX6_want 15 [l0, l1, l2, l3] st σ) ∧
  (∀ (l0 l1 l3 : Option Value) (x : Int32) (st : List Value) (σ : dS), den mX6_want 15 [l0, l1, some (.int x), l3] st σ = den mX6_want 16 [l0, l1, some (.int x), l3] (.int x :: st) σ) ∧
  (∀ (l0 l1 l2 l3 : Option Value) (st : List Value) (σ : dS), den mX6_want 16 [l0, l1, l2, l3] st σ = den mX6_want 17 [l0, l1, l2, l3] (.int (nI 2) :: st) σ) ∧
  (∀ (l0 l1 l2 l3 : Option Value) (x y : Int32) (st : List Value) (σ : dS), den mX6_want 17 [l0, l1, l2, l3] (.int y :: .int x :: st) σ = if y < x then den mX6_want 20 [l0, l1, l2, l3] st σ else den mX6_want 22 [l0, l1, l2, l3] st σ) ∧
  (∀ (l0 l1 l2 l3 : Option Value) (st : List Value) (σ : dS), den mX6_want 20 [l0, l1, l2, l3] st σ = den mX6_want 21 [l0, l1, l2, l3] (.int ((-1)) :: st) σ) ∧
  (∀ (l0 l1 l2 l3 : Option Value) (v : Int32) (σ : dS), den mX6_want 21 [l0, l1, l2, l3] [.int v] σ = some (some (.int v), σ)) ∧
  (∀ (l1 l2 l3 : Option Value) (x : Nat) (st : List Value) (σ : dS), den mX6_want 22 [some (.ref x), l1, l2, l3] st σ = den mX6_want 23 [some (.ref x), l1, l2, l3] (.ref x :: st) σ) ∧
  (∀ (l0 l1 l2 l3 : Option Value) (q : Nat) (st : List Value) (σ : dS), den mX6_want 23 [l0, l1, l2, l3] (.ref q :: st) σ = (dget σ q 5 1).bind fun v => den mX6_want 26 [l0, l1, l2, l3] (v :: st) σ) ∧
  (∀ (l0 l1 l2 l3 : Option Value) (q : Nat) (st : List Value) (σ : dS), den mX6_want 26 [l0, l1, l2, l3] (.ref q :: st) σ = (dget σ q 2 6).bind fun v => den mX6_want 29 [l0, l1, l2, l3] (v :: st) σ) ∧
  (∀ (l0 l2 l3 : Option Value) (x : Int32) (st : List Value) (σ : dS), den mX6_want 29 [l0, some (.int x), l2, l3] st σ = den mX6_want 30 [l0, some (.int x), l2, l3] (.int x :: st) σ) ∧
  (∀ (l0 l1 l2 l3 : Option Value) (q : Nat) (i : Int32) (st : List Value) (σ : dS), den mX6_want 30 [l0, l1, l2, l3] (.int i :: .ref q :: st) σ = if q ≤ dN then (dald σ q 0 i).bind (fun v => den mX6_want 31 [l0, l1, l2, l3] (.int v :: st) σ) else none) ∧
  (∀ (l0 l1 l3 : Option Value) (x : Int32) (y : Int32) (st : List Value) (σ : dS), den mX6_want 31 [l0, l1, some (.int y), l3] (.int x :: st) σ = den mX6_want 32 [l0, l1, some (.int y), some (.int x)] st σ) ∧
  (∀ (l1 l2 l3 : Option Value) (x : Nat) (st : List Value) (σ : dS), den mX6_want 32 [some (.ref x), l1, l2, l3] st σ = den mX6_want 33 [some (.ref x), l1, l2, l3] (.ref x :: st) σ) ∧
  (∀ (l0 l1 l2 l3 : Option Value) (q : Nat) (st : List Value) (σ : dS), den mX6_want 33 [l0, l1, l2, l3] (.ref q :: st) σ = (dget σ q 5 1).bind fun v => den mX6_want 36 [l0, l1, l2, l3] (v :: st) σ) ∧
  (∀ (l0 l1 l2 l3 : Option Value) (q : Nat) (st : List Value) (σ : dS), den mX6_want 36 [l0, l1, l2, l3] (.ref q :: st) σ = (dget σ q 2 6).bind fun v => den mX6_want 39 [l0, l1, l2, l3] (v :: st) σ) ∧
  (∀ (l0 l2 l3 : Option Value) (x : Int32) (st : List Value) (σ : dS), den mX6_want 39 [l0, some (.int x), l2, l3] st σ = den mX6_want 40 [l0, some (.int x), l2, l3] (.int x :: st) σ) ∧
  (∀ (l0 l1 l3 : Option Value) (x : Int32) (st : List Value) (σ : dS), den mX6_want 40 [l0, l1, some (.int x), l3] st σ = den mX6_want 41 [l0, l1, some (.int x), l3] (.int x :: st) σ) ∧
  (∀ (l0 l1 l2 l3 : Option Value) (q : Nat) (i x : Int32) (st : List Value) (σ : dS), den mX6_want 41 [l0, l1, l2, l3] (.int x :: .int i :: .ref q :: st) σ = (dast σ q 0 i x).bind fun τ => den mX6_want 42 [l0, l1, l2, l3] st τ) ∧
  (∀ (l0 l1 l2 : Option Value) (x : Int32) (st : List Value) (σ : dS), den mX6_want 42 [l0, l1, l2, some (.int x)] st σ = den mX6_want 43 [l0, l1, l2, some (.int x)] (.int x :: st) σ) ∧
  (∀ (l0 l1 l2 l3 : Option Value) (v : Int32) (σ : dS), den mX6_want 43 [l0, l1, l2, l3] [.int v] σ = some (some (.int v), σ)) :=
  ⟨fun l1 l2 l3 x st σ => dn_aload_n eX6_want dX6_want_0 rfl,
  fun l0 l1 l2 l3 q st σ => dn_getfield (f := (5, 1, 260)) eX6_want dX6_want_1 (by decide +kernel),
  fun l0 l2 l3 x st σ => dn_iload_n eX6_want dX6_want_4 rfl,
  fun l0 l1 l2 l3 a0 q σ => rX6_want_5 l0 l1 l2 l3 a0 q σ,
  fun l0 l1 l2 l3 x st σ => dn_if_eq eX6_want dX6_want_8 (by decide),
  fun l0 l1 l3 x st σ => dn_iload_n eX6_want dX6_want_11 rfl,
  fun l0 l1 l2 l3 x st σ => dn_if_lt eX6_want dX6_want_12 (by decide),
  fun l0 l1 l3 x st σ => dn_iload_n eX6_want dX6_want_15 rfl,
  fun l0 l1 l2 l3 st σ => dn_iconst eX6_want dX6_want_16 kc_iconst_2,
  fun l0 l1 l2 l3 x y st σ => dn_icmp_le eX6_want dX6_want_17 (by decide),
  fun l0 l1 l2 l3 st σ => dn_iconst eX6_want dX6_want_20 kc_iconst_m1,
  fun l0 l1 l2 l3 v σ => dn_ireturn eX6_want dX6_want_21 rfl,
  fun l1 l2 l3 x st σ => dn_aload_n eX6_want dX6_want_22 rfl,
  fun l0 l1 l2 l3 q st σ => dn_getfield (f := (5, 1, 260)) eX6_want dX6_want_23 (by decide +kernel),
  fun l0 l1 l2 l3 q st σ => dn_getfield (f := (2, 6, 108)) eX6_want dX6_want_26 (by decide +kernel),
  fun l0 l2 l3 x st σ => dn_iload_n eX6_want dX6_want_29 rfl,
  fun l0 l1 l2 l3 q i st σ => dn_iaload eX6_want dX6_want_30,
  fun l0 l1 l3 x y st σ => dn_istore_n eX6_want dX6_want_31 rfl,
  fun l1 l2 l3 x st σ => dn_aload_n eX6_want dX6_want_32 rfl,
  fun l0 l1 l2 l3 q st σ => dn_getfield (f := (5, 1, 260)) eX6_want dX6_want_33 (by decide +kernel),
  fun l0 l1 l2 l3 q st σ => dn_getfield (f := (2, 6, 108)) eX6_want dX6_want_36 (by decide +kernel),
  fun l0 l2 l3 x st σ => dn_iload_n eX6_want dX6_want_39 rfl,
  fun l0 l1 l3 x st σ => dn_iload_n eX6_want dX6_want_40 rfl,
  fun l0 l1 l2 l3 q i x st σ => dn_iastore eX6_want dX6_want_41,
  fun l0 l1 l2 x st σ => dn_iload_n eX6_want dX6_want_42 rfl,
  fun l0 l1 l2 l3 v σ => dn_ireturn eX6_want dX6_want_43 rfl⟩
theorem CX6_greatestCommon (a0 : Int64) (a1 : Int64) (σ : dS) : dcall mX6_greatestCommon [.long a0, .long a1] σ = den mX6_greatestCommon 0 [some (.long a0), none, some (.long a1), none, none, none, none, none, none, none, none] [] σ := dcall_den (by decide) rfl
theorem hX6_greatestCommon_9 (l0 l1 l2 l3 l4 l5 l6 l7 l9 l10 : Option Value) (x : Int32) (st : List Value) (σ : dS) : den mX6_greatestCommon 9 [l0, l1, l2, l3, l4, l5, l6, l7, some (.int x), l9, l10] st σ = den mX6_greatestCommon 11 [l0, l1, l2, l3, l4, l5, l6, l7, some (.int x), l9, l10] (.int x :: st) σ := dn_iload eX6_greatestCommon dX6_greatestCommon_9 rfl
set_option maxRecDepth 20000 in
theorem SX6_greatestCommon : (∀ (l1 l2 l3 l4 l5 l6 l7 l8 l9 l10 : Option Value) (x : Int64) (st : List Value) (σ : dS), den mX6_greatestCommon 0 [some (.long x), l1, l2, l3, l4, l5, l6, l7, l8, l9, l10] st σ = den mX6_greatestCommon 1 [some (.long x), l1, l2, l3, l4, l5, l6, l7, l8, l9, l10] (.long x :: st) σ) ∧
  (∀ (l0 l1 l2 l4 l5 l6 l7 l8 l9 l10 : Option Value) (x : Int64) (st : List Value) (σ : dS), den mX6_greatestCommon 1 [l0, l1, l2, none, l4, l5, l6, l7, l8, l9, l10] (.long x :: st) σ = den mX6_greatestCommon 3 [l0, l1, l2, none, some (.long x), none, l6, l7, l8, l9, l10] st σ) ∧
  (∀ (l0 l1 l3 l4 l5 l6 l7 l8 l9 l10 : Option Value) (x : Int64) (st : List Value) (σ : dS), den mX6_greatestCommon 3 [l0, l1, some (.long x), l3, l4, l5, l6, l7, l8, l9, l10] st σ = den mX6_greatestCommon 4 [l0, l1, some (.long x), l3, l4, l5, l6, l7, l8, l9, l10] (.long x :: st) σ) ∧
  (∀ (l0 l1 l2 l3 l4 l6 l7 l8 l9 l10 : Option Value) (x : Int64) (st : List Value) (σ : dS), den mX6_greatestCommon 4 [l0, l1, l2, l3, l4, none, l6, l7, l8, l9, l10] (.long x :: st) σ = den mX6_greatestCommon 6 [l0, l1, l2, l3, l4, none, some (.long x), none, l8, l9, l10] st σ) ∧
  (∀ (l0 l1 l2 l3 l4 l5 l6 l7 l8 l9 l10 : Option Value) (st : List Value) (σ : dS), den mX6_greatestCommon 6 [l0, l1, l2, l3, l4, l5, l6, l7, l8, l9, l10] st σ = den mX6_greatestCommon 7 [l0, l1, l2, l3, l4, l5, l6, l7, l8, l9, l10] (.int (nI 0) :: st) σ) ∧
  (∀ (l0 l1 l2 l3 l4 l5 l6 l8 l9 l10 : Option Value) (x : Int32) (st : List Value) (σ : dS), den mX6_greatestCommon 7 [l0, l1, l2, l3, l4, l5, l6, none, l8, l9, l10] (.int x :: st) σ = den mX6_greatestCommon 9 [l0, l1, l2, l3, l4, l5, l6, none, some (.int x), l9, l10] st σ) ∧
  (∀ (l0 l1 l2 l3 l4 l5 l6 l7 l8 l9 l10 : Option Value) (st : List Value) (σ : dS), den mX6_greatestCommon 11 [l0, l1, l2, l3, l4, l5, l6, l7, l8, l9, l10] st σ = den mX6_greatestCommon 13 [l0, l1, l2, l3, l4, l5, l6, l7, l8, l9, l10] (.int (nI 100) :: st) σ) ∧
  (∀ (l0 l1 l2 l3 l4 l5 l6 l7 l8 l9 l10 : Option Value) (x y : Int32) (st : List Value) (σ : dS), den mX6_greatestCommon 13 [l0, l1, l2, l3, l4, l5, l6, l7, l8, l9, l10] (.int y :: .int x :: st) σ = if x < y then den mX6_greatestCommon 16 [l0, l1, l2, l3, l4, l5, l6, l7, l8, l9, l10] st σ else den mX6_greatestCommon 44 [l0, l1, l2, l3, l4, l5, l6, l7, l8, l9, l10] st σ) ∧
  (∀ (l0 l1 l2 l3 l4 l5 l7 l8 l9 l10 : Option Value) (x : Int64) (st : List Value) (σ : dS), den mX6_greatestCommon 16 [l0, l1, l2, l3, l4, l5, some (.long x), l7, l8, l9, l10] st σ = den mX6_greatestCommon 18 [l0, l1, l2, l3, l4, l5, some (.long x), l7, l8, l9, l10] (.long x :: st) σ) ∧
  (∀ (l0 l1 l2 l3 l4 l5 l6 l7 l8 l9 l10 : Option Value) (st : List Value) (σ : dS), den mX6_greatestCommon 18 [l0, l1, l2, l3, l4, l5, l6, l7, l8, l9, l10] st σ = den mX6_greatestCommon 19 [l0, l1, l2, l3, l4, l5, l6, l7, l8, l9, l10] (.long (lN 0) :: st) σ) ∧
  (∀ (l0 l1 l2 l3 l4 l5 l6 l7 l8 l9 l10 : Option Value) (x y : Int64) (st : List Value) (σ : dS), den mX6_greatestCommon 19 [l0, l1, l2, l3, l4, l5, l6, l7, l8, l9, l10] (.long y :: .long x :: st) σ = den mX6_greatestCommon 20 [l0, l1, l2, l3, l4, l5, l6, l7, l8, l9, l10] (.int (lg_cmp x y) :: st) σ) ∧
  (∀ (l0 l1 l2 l3 l4 l5 l6 l7 l8 l9 l10 : Option Value) (x : Int32) (st : List Value) (σ : dS), den mX6_greatestCommon 20 [l0, l1, l2, l3, l4, l5, l6, l7, l8, l9, l10] (.int x :: st) σ = if x = 0 then den mX6_greatestCommon 44 [l0, l1, l2, l3, l4, l5, l6, l7, l8, l9, l10] st σ else den mX6_greatestCommon 23 [l0, l1, l2, l3, l4, l5, l6, l7, l8, l9, l10] st σ) ∧
  (∀ (l0 l1 l2 l3 l5 l6 l7 l8 l9 l10 : Option Value) (x : Int64) (st : List Value) (σ : dS), den mX6_greatestCommon 23 [l0, l1, l2, l3, some (.long x), l5, l6, l7, l8, l9, l10] st σ = den mX6_greatestCommon 25 [l0, l1, l2, l3, some (.long x), l5, l6, l7, l8, l9, l10] (.long x :: st) σ) ∧
  (∀ (l0 l1 l2 l3 l4 l5 l7 l8 l9 l10 : Option Value) (x : Int64) (st : List Value) (σ : dS), den mX6_greatestCommon 25 [l0, l1, l2, l3, l4, l5, some (.long x), l7, l8, l9, l10] st σ = den mX6_greatestCommon 27 [l0, l1, l2, l3, l4, l5, some (.long x), l7, l8, l9, l10] (.long x :: st) σ) ∧
  (∀ (l0 l1 l2 l3 l4 l5 l6 l7 l8 l9 l10 : Option Value) (x y : Int64) (st : List Value) (σ : dS), den mX6_greatestCommon 27 [l0, l1, l2, l3, l4, l5, l6, l7, l8, l9, l10] (.long y :: .long x :: st) σ = if y = 0 then none else den mX6_greatestCommon 28 [l0, l1, l2, l3, l4, l5, l6, l7, l8, l9, l10] (.long (x - x / y * y) :: st) σ) ∧
  (∀ (l0 l1 l2 l3 l4 l5 l6 l7 l9 l10 : Option Value) (x : Int64) (y : Int32) (st : List Value) (σ : dS), den mX6_greatestCommon 28 [l0, l1, l2, l3, l4, l5, l6, l7, some (.int y), l9, l10] (.long x :: st) σ = den mX6_greatestCommon 30 [l0, l1, l2, l3, l4, l5, l6, l7, some (.int y), some (.long x), none] st σ) ∧
  (∀ (l0 l1 l2 l3 l4 l5 l7 l8 l9 l10 : Option Value) (x : Int64) (st : List Value) (σ : dS), den mX6_greatestCommon 30 [l0, l1, l2, l3, l4, l5, some (.long x), l7, l8, l9, l10] st σ = den mX6_greatestCommon 32 [l0, l1, l2, l3, l4, l5, some (.long x), l7, l8, l9, l10] (.long x :: st) σ) ∧
  (∀ (l0 l1 l2 l4 l5 l6 l7 l8 l9 l10 : Option Value) (x : Int64) (st : List Value) (σ : dS), den mX6_greatestCommon 32 [l0, l1, l2, none, l4, l5, l6, l7, l8, l9, l10] (.long x :: st) σ = den mX6_greatestCommon 34 [l0, l1, l2, none, some (.long x), none, l6, l7, l8, l9, l10] st σ) ∧
  (∀ (l0 l1 l2 l3 l4 l5 l6 l7 l8 l10 : Option Value) (x : Int64) (st : List Value) (σ : dS), den mX6_greatestCommon 34 [l0, l1, l2, l3, l4, l5, l6, l7, l8, some (.long x), l10] st σ = den mX6_greatestCommon 36 [l0, l1, l2, l3, l4, l5, l6, l7, l8, some (.long x), l10] (.long x :: st) σ) ∧
  (∀ (l0 l1 l2 l3 l4 l6 l7 l8 l9 l10 : Option Value) (x : Int64) (st : List Value) (σ : dS), den mX6_greatestCommon 36 [l0, l1, l2, l3, l4, none, l6, l7, l8, l9, l10] (.long x :: st) σ = den mX6_greatestCommon 38 [l0, l1, l2, l3, l4, none, some (.long x), none, l8, l9, l10] st σ) ∧
  (∀ (l0 l1 l2 l3 l4 l5 l6 l9 l10 : Option Value) (x : Int32) (st : List Value) (σ : dS), den mX6_greatestCommon 38 [l0, l1, l2, l3, l4, l5, l6, none, some (.int x), l9, l10] st σ = den mX6_greatestCommon 41 [l0, l1, l2, l3, l4, l5, l6, none, some (.int (x + nI 1)), l9, l10] st σ) ∧
  (∀ (l0 l1 l2 l3 l4 l5 l6 l7 l8 l9 l10 : Option Value) (st : List Value) (σ : dS), den mX6_greatestCommon 41 [l0, l1, l2, l3, l4, l5, l6, l7, l8, l9, l10] st σ = den mX6_greatestCommon 9 [l0, l1, l2, l3, l4, l5, l6, l7, l8, l9, l10] st σ) ∧
  (∀ (l0 l1 l2 l3 l5 l6 l7 l8 l9 l10 : Option Value) (x : Int64) (st : List Value) (σ : dS), den mX6_greatestCommon 44 [l0, l1, l2, l3, some (.long x), l5, l6, l7, l8, l9, l10] st σ = den mX6_greatestCommon 46 [l0, l1, l2, l3, some (.long x), l5, l6, l7, l8, l9, l10] (.long x :: st) σ) ∧
  (∀ (l0 l1 l2 l3 l4 l5 l6 l7 l8 l9 l10 : Option Value) (v : Int64) (σ : dS), den mX6_greatestCommon 46 [l0, l1, l2, l3, l4, l5, l6, l7, l8, l9, l10] [.long v] σ = some (some (.long v), σ)) :=
  ⟨fun l1 l2 l3 l4 l5 l6 l7 l8 l9 l10 x st σ => dn_lload_n eX6_greatestCommon dX6_greatestCommon_0 rfl,
  fun l0 l1 l2 l4 l5 l6 l7 l8 l9 l10 x st σ => dn_lstore eX6_greatestCommon dX6_greatestCommon_1 rfl,
  fun l0 l1 l3 l4 l5 l6 l7 l8 l9 l10 x st σ => dn_lload_n eX6_greatestCommon dX6_greatestCommon_3 rfl,
  fun l0 l1 l2 l3 l4 l6 l7 l8 l9 l10 x st σ => dn_lstore eX6_greatestCommon dX6_greatestCommon_4 rfl,
  fun l0 l1 l2 l3 l4 l5 l6 l7 l8 l9 l10 st σ => dn_iconst eX6_greatestCommon dX6_greatestCommon_6 kc_iconst_0,
  fun l0 l1 l2 l3 l4 l5 l6 l8 l9 l10 x st σ => dn_istore eX6_greatestCommon dX6_greatestCommon_7 rfl,
  fun l0 l1 l2 l3 l4 l5 l6 l7 l8 l9 l10 st σ => dn_bipush eX6_greatestCommon dX6_greatestCommon_11 kc_bipush_100,
  fun l0 l1 l2 l3 l4 l5 l6 l7 l8 l9 l10 x y st σ => dn_icmp_ge eX6_greatestCommon dX6_greatestCommon_13 (by decide),
  fun l0 l1 l2 l3 l4 l5 l7 l8 l9 l10 x st σ => dn_lload eX6_greatestCommon dX6_greatestCommon_16 rfl,
  fun l0 l1 l2 l3 l4 l5 l6 l7 l8 l9 l10 st σ => dn_lconst eX6_greatestCommon dX6_greatestCommon_18 kc_lconst_0,
  fun l0 l1 l2 l3 l4 l5 l6 l7 l8 l9 l10 x y st σ => dn_lcmp eX6_greatestCommon dX6_greatestCommon_19,
  fun l0 l1 l2 l3 l4 l5 l6 l7 l8 l9 l10 x st σ => dn_if_eq eX6_greatestCommon dX6_greatestCommon_20 (by decide),
  fun l0 l1 l2 l3 l5 l6 l7 l8 l9 l10 x st σ => dn_lload eX6_greatestCommon dX6_greatestCommon_23 rfl,
  fun l0 l1 l2 l3 l4 l5 l7 l8 l9 l10 x st σ => dn_lload eX6_greatestCommon dX6_greatestCommon_25 rfl,
  fun l0 l1 l2 l3 l4 l5 l6 l7 l8 l9 l10 x y st σ => dn_lrem eX6_greatestCommon dX6_greatestCommon_27,
  fun l0 l1 l2 l3 l4 l5 l6 l7 l9 l10 x y st σ => dn_lstore eX6_greatestCommon dX6_greatestCommon_28 rfl,
  fun l0 l1 l2 l3 l4 l5 l7 l8 l9 l10 x st σ => dn_lload eX6_greatestCommon dX6_greatestCommon_30 rfl,
  fun l0 l1 l2 l4 l5 l6 l7 l8 l9 l10 x st σ => dn_lstore eX6_greatestCommon dX6_greatestCommon_32 rfl,
  fun l0 l1 l2 l3 l4 l5 l6 l7 l8 l10 x st σ => dn_lload eX6_greatestCommon dX6_greatestCommon_34 rfl,
  fun l0 l1 l2 l3 l4 l6 l7 l8 l9 l10 x st σ => dn_lstore eX6_greatestCommon dX6_greatestCommon_36 rfl,
  fun l0 l1 l2 l3 l4 l5 l6 l9 l10 x st σ => dn_iinc (v := nI 1) eX6_greatestCommon dX6_greatestCommon_38 rfl kc_iconst_1 rfl,
  fun l0 l1 l2 l3 l4 l5 l6 l7 l8 l9 l10 st σ => dn_goto eX6_greatestCommon dX6_greatestCommon_41 (by decide),
  fun l0 l1 l2 l3 l5 l6 l7 l8 l9 l10 x st σ => dn_lload eX6_greatestCommon dX6_greatestCommon_44 rfl,
  fun l0 l1 l2 l3 l4 l5 l6 l7 l8 l9 l10 v σ => dn_lreturn eX6_greatestCommon dX6_greatestCommon_46 rfl⟩
theorem CX6_partOfFraction (a0 : Int64) (a1 : Int64) (a2 : Int32) (σ : dS) : dcall mX6_partOfFraction [.long a0, .long a1, .int a2] σ = den mX6_partOfFraction 0 [some (.long a0), none, some (.long a1), none, some (.int a2), none, none] [] σ := dcall_den (by decide) rfl
set_option maxRecDepth 20000 in
theorem SX6_partOfFraction : (∀ (l1 l2 l3 l4 l5 l6 : Option Value) (x : Int64) (st : List Value) (σ : dS), den mX6_partOfFraction 0 [some (.long x), l1, l2, l3, l4, l5, l6] st σ = den mX6_partOfFraction 1 [some (.long x), l1, l2, l3, l4, l5, l6] (.long x :: st) σ) ∧
  (∀ (l0 l1 l3 l4 l5 l6 : Option Value) (x : Int64) (st : List Value) (σ : dS), den mX6_partOfFraction 1 [l0, l1, some (.long x), l3, l4, l5, l6] st σ = den mX6_partOfFraction 2 [l0, l1, some (.long x), l3, l4, l5, l6] (.long x :: st) σ) ∧
  (∀ (l0 l1 l2 l3 l4 l5 l6 : Option Value) (a0 : Int64) (a1 : Int64) (σ : dS), den mX6_partOfFraction 2 [l0, l1, l2, l3, l4, l5, l6] [.long a1, .long a0] σ = (dcall mX6_greatestCommon [.long a0, .long a1] σ).bind fun r => den mX6_partOfFraction 5 [l0, l1, l2, l3, l4, l5, l6] (r.1.toList ++ []) r.2) ∧
  (∀ (l0 l1 l2 l3 l5 l6 : Option Value) (x : Int64) (y : Int32) (st : List Value) (σ : dS), den mX6_partOfFraction 5 [l0, l1, l2, l3, some (.int y), l5, l6] (.long x :: st) σ = den mX6_partOfFraction 7 [l0, l1, l2, l3, some (.int y), some (.long x), none] st σ) ∧
  (∀ (l0 l1 l2 l3 l4 l6 : Option Value) (x : Int64) (st : List Value) (σ : dS), den mX6_partOfFraction 7 [l0, l1, l2, l3, l4, some (.long x), l6] st σ = den mX6_partOfFraction 9 [l0, l1, l2, l3, l4, some (.long x), l6] (.long x :: st) σ) ∧
  (∀ (l0 l1 l2 l3 l4 l5 l6 : Option Value) (st : List Value) (σ : dS), den mX6_partOfFraction 9 [l0, l1, l2, l3, l4, l5, l6] st σ = den mX6_partOfFraction 10 [l0, l1, l2, l3, l4, l5, l6] (.long (lN 0) :: st) σ) ∧
  (∀ (l0 l1 l2 l3 l4 l5 l6 : Option Value) (x y : Int64) (st : List Value) (σ : dS), den mX6_partOfFraction 10 [l0, l1, l2, l3, l4, l5, l6] (.long y :: .long x :: st) σ = den mX6_partOfFraction 11 [l0, l1, l2, l3, l4, l5, l6] (.int (lg_cmp x y) :: st) σ) ∧
  (∀ (l0 l1 l2 l3 l4 l5 l6 : Option Value) (x : Int32) (st : List Value) (σ : dS), den mX6_partOfFraction 11 [l0, l1, l2, l3, l4, l5, l6] (.int x :: st) σ = if 0 < x then den mX6_partOfFraction 18 [l0, l1, l2, l3, l4, l5, l6] st σ else den mX6_partOfFraction 14 [l0, l1, l2, l3, l4, l5, l6] st σ) ∧
  (∀ (l0 l1 l2 l3 l5 l6 : Option Value) (x : Int32) (st : List Value) (σ : dS), den mX6_partOfFraction 14 [l0, l1, l2, l3, some (.int x), l5, l6] st σ = den mX6_partOfFraction 16 [l0, l1, l2, l3, some (.int x), l5, l6] (.int x :: st) σ) ∧
  (∀ (l0 l1 l2 l3 l4 l5 l6 : Option Value) (x : Int32) (st : List Value) (σ : dS), den mX6_partOfFraction 16 [l0, l1, l2, l3, l4, l5, l6] (.int x :: st) σ = den mX6_partOfFraction 17 [l0, l1, l2, l3, l4, l5, l6] (.long x.toInt64 :: st) σ) ∧
  (∀ (l0 l1 l2 l3 l4 l5 l6 : Option Value) (v : Int64) (σ : dS), den mX6_partOfFraction 17 [l0, l1, l2, l3, l4, l5, l6] [.long v] σ = some (some (.long v), σ)) ∧
  (∀ (l0 l1 l2 l3 l5 l6 : Option Value) (x : Int32) (st : List Value) (σ : dS), den mX6_partOfFraction 18 [l0, l1, l2, l3, some (.int x), l5, l6] st σ = den mX6_partOfFraction 20 [l0, l1, l2, l3, some (.int x), l5, l6] (.int x :: st) σ) ∧
  (∀ (l0 l1 l2 l3 l4 l5 l6 : Option Value) (x : Int32) (st : List Value) (σ : dS), den mX6_partOfFraction 20 [l0, l1, l2, l3, l4, l5, l6] (.int x :: st) σ = if x = 0 then den mX6_partOfFraction 23 [l0, l1, l2, l3, l4, l5, l6] st σ else den mX6_partOfFraction 30 [l0, l1, l2, l3, l4, l5, l6] st σ) ∧
  (∀ (l1 l2 l3 l4 l5 l6 : Option Value) (x : Int64) (st : List Value) (σ : dS), den mX6_partOfFraction 23 [some (.long x), l1, l2, l3, l4, l5, l6] st σ = den mX6_partOfFraction 24 [some (.long x), l1, l2, l3, l4, l5, l6] (.long x :: st) σ) ∧
  (∀ (l0 l1 l2 l3 l4 l6 : Option Value) (x : Int64) (st : List Value) (σ : dS), den mX6_partOfFraction 24 [l0, l1, l2, l3, l4, some (.long x), l6] st σ = den mX6_partOfFraction 26 [l0, l1, l2, l3, l4, some (.long x), l6] (.long x :: st) σ) ∧
  (∀ (l0 l1 l2 l3 l4 l5 l6 : Option Value) (x y : Int64) (st : List Value) (σ : dS), den mX6_partOfFraction 26 [l0, l1, l2, l3, l4, l5, l6] (.long y :: .long x :: st) σ = if y = 0 then none else den mX6_partOfFraction 27 [l0, l1, l2, l3, l4, l5, l6] (.long (x / y) :: st) σ) ∧
  (∀ (l0 l1 l2 l3 l4 l5 l6 : Option Value) (st : List Value) (σ : dS), den mX6_partOfFraction 27 [l0, l1, l2, l3, l4, l5, l6] st σ = den mX6_partOfFraction 34 [l0, l1, l2, l3, l4, l5, l6] st σ) ∧
  (∀ (l0 l1 l3 l4 l5 l6 : Option Value) (x : Int64) (st : List Value) (σ : dS), den mX6_partOfFraction 30 [l0, l1, some (.long x), l3, l4, l5, l6] st σ = den mX6_partOfFraction 31 [l0, l1, some (.long x), l3, l4, l5, l6] (.long x :: st) σ) ∧
  (∀ (l0 l1 l2 l3 l4 l6 : Option Value) (x : Int64) (st : List Value) (σ : dS), den mX6_partOfFraction 31 [l0, l1, l2, l3, l4, some (.long x), l6] st σ = den mX6_partOfFraction 33 [l0, l1, l2, l3, l4, some (.long x), l6] (.long x :: st) σ) ∧
  (∀ (l0 l1 l2 l3 l4 l5 l6 : Option Value) (x y : Int64) (st : List Value) (σ : dS), den mX6_partOfFraction 33 [l0, l1, l2, l3, l4, l5, l6] (.long y :: .long x :: st) σ = if y = 0 then none else den mX6_partOfFraction 34 [l0, l1, l2, l3, l4, l5, l6] (.long (x / y) :: st) σ) ∧
  (∀ (l0 l1 l2 l3 l4 l5 l6 : Option Value) (v : Int64) (σ : dS), den mX6_partOfFraction 34 [l0, l1, l2, l3, l4, l5, l6] [.long v] σ = some (some (.long v), σ)) :=
  ⟨fun l1 l2 l3 l4 l5 l6 x st σ => dn_lload_n eX6_partOfFraction dX6_partOfFraction_0 rfl,
  fun l0 l1 l3 l4 l5 l6 x st σ => dn_lload_n eX6_partOfFraction dX6_partOfFraction_1 rfl,
  fun l0 l1 l2 l3 l4 l5 l6 a0 a1 σ => dn_callS (e := (1, 85, 615)) (as := [.long a0, .long a1]) (rest := []) eX6_partOfFraction dX6_partOfFraction_2 (by decide +kernel) (Or.inl rfl) (by decide +kernel) rfl (dcat_le rfl) (dlen_le rfl) rfl,
  fun l0 l1 l2 l3 l5 l6 x y st σ => dn_lstore eX6_partOfFraction dX6_partOfFraction_5 rfl,
  fun l0 l1 l2 l3 l4 l6 x st σ => dn_lload eX6_partOfFraction dX6_partOfFraction_7 rfl,
  fun l0 l1 l2 l3 l4 l5 l6 st σ => dn_lconst eX6_partOfFraction dX6_partOfFraction_9 kc_lconst_0,
  fun l0 l1 l2 l3 l4 l5 l6 x y st σ => dn_lcmp eX6_partOfFraction dX6_partOfFraction_10,
  fun l0 l1 l2 l3 l4 l5 l6 x st σ => dn_if_gt eX6_partOfFraction dX6_partOfFraction_11 (by decide),
  fun l0 l1 l2 l3 l5 l6 x st σ => dn_iload eX6_partOfFraction dX6_partOfFraction_14 rfl,
  fun l0 l1 l2 l3 l4 l5 l6 x st σ => dn_i2l eX6_partOfFraction dX6_partOfFraction_16,
  fun l0 l1 l2 l3 l4 l5 l6 v σ => dn_lreturn eX6_partOfFraction dX6_partOfFraction_17 rfl,
  fun l0 l1 l2 l3 l5 l6 x st σ => dn_iload eX6_partOfFraction dX6_partOfFraction_18 rfl,
  fun l0 l1 l2 l3 l4 l5 l6 x st σ => dn_if_ne eX6_partOfFraction dX6_partOfFraction_20 (by decide),
  fun l1 l2 l3 l4 l5 l6 x st σ => dn_lload_n eX6_partOfFraction dX6_partOfFraction_23 rfl,
  fun l0 l1 l2 l3 l4 l6 x st σ => dn_lload eX6_partOfFraction dX6_partOfFraction_24 rfl,
  fun l0 l1 l2 l3 l4 l5 l6 x y st σ => dn_ldiv eX6_partOfFraction dX6_partOfFraction_26,
  fun l0 l1 l2 l3 l4 l5 l6 st σ => dn_goto eX6_partOfFraction dX6_partOfFraction_27 (by decide),
  fun l0 l1 l3 l4 l5 l6 x st σ => dn_lload_n eX6_partOfFraction dX6_partOfFraction_30 rfl,
  fun l0 l1 l2 l3 l4 l6 x st σ => dn_lload eX6_partOfFraction dX6_partOfFraction_31 rfl,
  fun l0 l1 l2 l3 l4 l5 l6 x y st σ => dn_ldiv eX6_partOfFraction dX6_partOfFraction_33,
  fun l0 l1 l2 l3 l4 l5 l6 v σ => dn_lreturn eX6_partOfFraction dX6_partOfFraction_34 rfl⟩
theorem CX6_mean (a0 : Nat) (a1 : Int32) (σ : dS) : dcall mX6_mean [.ref a0, .int a1] σ = den mX6_mean 0 [some (.ref a0), some (.int a1)] [] σ := dcall_den (by decide) rfl
theorem rX6_mean_14 (l0 l1 : Option Value) (q : Nat) (σ : dS) : den mX6_mean 14 [l0, l1] [.ref q] σ = if disO σ q 5 = true then ((dcall mX6_measured [.ref q] σ).bind fun r => den mX6_mean 17 [l0, l1] (r.1.toList ++ []) r.2) else none := by
  by_cases h : disO σ q 5 = true
  · rw [if_pos h]; exact dn_callV (e := (0, 72, 457)) (as := []) (rest := []) eX6_mean dX6_mean_14 (by decide +kernel) rfl (by decide +kernel) rfl (dcat_le rfl) (dlen_le rfl) rfl h
  · rw [if_neg h]; exact den_noV (e := (0, 72, 457)) (as := []) (rest := []) eX6_mean dX6_mean_14 (by decide +kernel) rfl rfl rfl h
set_option maxRecDepth 20000 in
theorem SX6_mean : (∀ (l0 : Option Value) (x : Int32) (st : List Value) (σ : dS), den mX6_mean 0 [l0, some (.int x)] st σ = den mX6_mean 1 [l0, some (.int x)] (.int x :: st) σ) ∧
  (∀ (l0 l1 : Option Value) (x : Int32) (st : List Value) (σ : dS), den mX6_mean 1 [l0, l1] (.int x :: st) σ = if x < 0 then den mX6_mean 9 [l0, l1] st σ else den mX6_mean 4 [l0, l1] st σ) ∧
  (∀ (l0 : Option Value) (x : Int32) (st : List Value) (σ : dS), den mX6_mean 4 [l0, some (.int x)] st σ = den mX6_mean 5 [l0, some (.int x)] (.int x :: st) σ) ∧
  (∀ (l0 l1 : Option Value) (st : List Value) (σ : dS), den mX6_mean 5 [l0, l1] st σ = den mX6_mean 6 [l0, l1] (.int (nI 1) :: st) σ) ∧
  (∀ (l0 l1 : Option Value) (x y : Int32) (st : List Value) (σ : dS), den mX6_mean 6 [l0, l1] (.int y :: .int x :: st) σ = if y < x then den mX6_mean 9 [l0, l1] st σ else den mX6_mean 13 [l0, l1] st σ) ∧
  (∀ (l0 l1 : Option Value) (st : List Value) (σ : dS), den mX6_mean 9 [l0, l1] st σ = den mX6_mean 12 [l0, l1] (.long ((-1)) :: st) σ) ∧
  (∀ (l0 l1 : Option Value) (v : Int64) (σ : dS), den mX6_mean 12 [l0, l1] [.long v] σ = some (some (.long v), σ)) ∧
  (∀ (l1 : Option Value) (x : Nat) (st : List Value) (σ : dS), den mX6_mean 13 [some (.ref x), l1] st σ = den mX6_mean 14 [some (.ref x), l1] (.ref x :: st) σ) ∧
  (∀ (l0 l1 : Option Value) (q : Nat) (σ : dS), den mX6_mean 14 [l0, l1] [.ref q] σ = if disO σ q 5 = true then ((dcall mX6_measured [.ref q] σ).bind fun r => den mX6_mean 17 [l0, l1] (r.1.toList ++ []) r.2) else none) ∧
  (∀ (l0 l1 : Option Value) (q : Nat) (st : List Value) (σ : dS), den mX6_mean 17 [l0, l1] (.ref q :: st) σ = (dget σ q 0 2).bind fun v => den mX6_mean 20 [l0, l1] (v :: st) σ) ∧
  (∀ (l0 l1 : Option Value) (st : List Value) (σ : dS), den mX6_mean 20 [l0, l1] st σ = den mX6_mean 21 [l0, l1] (.int (nI 0) :: st) σ) ∧
  (∀ (l0 l1 : Option Value) (q : Nat) (i : Int32) (st : List Value) (σ : dS), den mX6_mean 21 [l0, l1] (.int i :: .ref q :: st) σ = (dlld σ q i).bind fun v => den mX6_mean 22 [l0, l1] (.long v :: st) σ) ∧
  (∀ (l0 l1 : Option Value) (st : List Value) (σ : dS), den mX6_mean 22 [l0, l1] st σ = den mX6_mean 25 [l0, l1] (.long (lN 1000000) :: st) σ) ∧
  (∀ (l0 : Option Value) (x : Int32) (st : List Value) (σ : dS), den mX6_mean 25 [l0, some (.int x)] st σ = den mX6_mean 26 [l0, some (.int x)] (.int x :: st) σ) ∧
  (∀ (l0 l1 : Option Value) (a0 : Int64) (a1 : Int64) (a2 : Int32) (σ : dS), den mX6_mean 26 [l0, l1] [.int a2, .long a1, .long a0] σ = (dcall mX6_partOfFraction [.long a0, .long a1, .int a2] σ).bind fun r => den mX6_mean 29 [l0, l1] (r.1.toList ++ []) r.2) ∧
  (∀ (l0 l1 : Option Value) (v : Int64) (σ : dS), den mX6_mean 29 [l0, l1] [.long v] σ = some (some (.long v), σ)) :=
  ⟨fun l0 x st σ => dn_iload_n eX6_mean dX6_mean_0 rfl,
  fun l0 l1 x st σ => dn_if_lt eX6_mean dX6_mean_1 (by decide),
  fun l0 x st σ => dn_iload_n eX6_mean dX6_mean_4 rfl,
  fun l0 l1 st σ => dn_iconst eX6_mean dX6_mean_5 kc_iconst_1,
  fun l0 l1 x y st σ => dn_icmp_le eX6_mean dX6_mean_6 (by decide),
  fun l0 l1 st σ => dn_ldc2_w (w := -1) (p := 610) eX6_mean dX6_mean_9 (by decide +kernel) (by decide +kernel),
  fun l0 l1 v σ => dn_lreturn eX6_mean dX6_mean_12 rfl,
  fun l1 x st σ => dn_aload_n eX6_mean dX6_mean_13 rfl,
  fun l0 l1 q σ => rX6_mean_14 l0 l1 q σ,
  fun l0 l1 q st σ => dn_getfield (f := (0, 2, 196)) eX6_mean dX6_mean_17 (by decide +kernel),
  fun l0 l1 st σ => dn_iconst eX6_mean dX6_mean_20 kc_iconst_0,
  fun l0 l1 q i st σ => dn_laload eX6_mean dX6_mean_21,
  fun l0 l1 st σ => dn_ldc2_w (w := 1000000) (p := 611) eX6_mean dX6_mean_22 (by decide +kernel) (by decide +kernel),
  fun l0 x st σ => dn_iload_n eX6_mean dX6_mean_25 rfl,
  fun l0 l1 a0 a1 a2 σ => dn_callS (e := (1, 86, 612)) (as := [.long a0, .long a1, .int a2]) (rest := []) eX6_mean dX6_mean_26 (by decide +kernel) (Or.inl rfl) (by decide +kernel) rfl (dcat_le rfl) (dlen_le rfl) rfl,
  fun l0 l1 v σ => dn_lreturn eX6_mean dX6_mean_29 rfl⟩
theorem CX6_odds (a0 : Nat) (a1 : Int32) (a2 : Int32) (σ : dS) : dcall mX6_odds [.ref a0, .int a1, .int a2] σ = den mX6_odds 0 [some (.ref a0), some (.int a1), some (.int a2), none, none, none, none, none, none] [] σ := dcall_den (by decide) rfl
theorem rX6_odds_5 (l0 l1 l2 l3 l4 l5 l6 l7 l8 : Option Value) (a0 : Int32) (q : Nat) (σ : dS) : den mX6_odds 5 [l0, l1, l2, l3, l4, l5, l6, l7, l8] [.int a0, .ref q] σ = if disO σ q 2 = true then ((dcall mX3_hasGuard [.ref q, .int a0] σ).bind fun r => den mX6_odds 8 [l0, l1, l2, l3, l4, l5, l6, l7, l8] (r.1.toList ++ []) r.2) else none := by
  by_cases h : disO σ q 2 = true
  · rw [if_pos h]; exact dn_callV (e := (0, 31, 510)) (as := [.int a0]) (rest := []) eX6_odds dX6_odds_5 (by decide +kernel) rfl (by decide +kernel) rfl (dcat_le rfl) (dlen_le rfl) rfl h
  · rw [if_neg h]; exact den_noV (e := (0, 31, 510)) (as := [.int a0]) (rest := []) eX6_odds dX6_odds_5 (by decide +kernel) rfl rfl rfl h
theorem hX6_odds_35 (l0 l1 l2 l3 l4 l5 l6 l7 : Option Value) (x : Int32) (st : List Value) (σ : dS) : den mX6_odds 35 [l0, l1, l2, l3, l4, l5, l6, l7, some (.int x)] st σ = den mX6_odds 37 [l0, l1, l2, l3, l4, l5, l6, l7, some (.int x)] (.int x :: st) σ := dn_iload eX6_odds dX6_odds_35 rfl
theorem rX6_odds_54 (l0 l1 l2 l3 l4 l5 l6 l7 l8 : Option Value) (a0 : Int32) (b0 : Int64) (q : Nat) (σ : dS) : den mX6_odds 54 [l0, l1, l2, l3, l4, l5, l6, l7, l8] [.int a0, .ref q, .long b0] σ = if disO σ q 2 = true then ((dcall mX3_tenthsOf [.ref q, .int a0] σ).bind fun r => den mX6_odds 57 [l0, l1, l2, l3, l4, l5, l6, l7, l8] (r.1.toList ++ [.long b0]) r.2) else none := by
  by_cases h : disO σ q 2 = true
  · rw [if_pos h]; exact dn_callV (e := (0, 35, 622)) (as := [.int a0]) (rest := [.long b0]) eX6_odds dX6_odds_54 (by decide +kernel) rfl (by decide +kernel) rfl (dcat_le rfl) (dlen_le rfl) rfl h
  · rw [if_neg h]; exact den_noV (e := (0, 35, 622)) (as := [.int a0]) (rest := [.long b0]) eX6_odds dX6_odds_54 (by decide +kernel) rfl rfl rfl h
theorem rX6_odds_74 (l0 l1 l2 l3 l4 l5 l6 l7 l8 : Option Value) (a0 : Int32) (q : Nat) (σ : dS) : den mX6_odds 74 [l0, l1, l2, l3, l4, l5, l6, l7, l8] [.int a0, .ref q] σ = if disO σ q 2 = true then ((dcall mX3_parentOf [.ref q, .int a0] σ).bind fun r => den mX6_odds 77 [l0, l1, l2, l3, l4, l5, l6, l7, l8] (r.1.toList ++ []) r.2) else none := by
  by_cases h : disO σ q 2 = true
  · rw [if_pos h]; exact dn_callV (e := (0, 5, 514)) (as := [.int a0]) (rest := []) eX6_odds dX6_odds_74 (by decide +kernel) rfl (by decide +kernel) rfl (dcat_le rfl) (dlen_le rfl) rfl h
  · rw [if_neg h]; exact den_noV (e := (0, 5, 514)) (as := [.int a0]) (rest := []) eX6_odds dX6_odds_74 (by decide +kernel) rfl rfl rfl h
set_option maxRecDepth 20000 in
theorem SX6_odds_0 : (∀ (l1 l2 l3 l4 l5 l6 l7 l8 : Option Value) (x : Nat) (st : List Value) (σ : dS), den mX6_odds 0 [some (.ref x), l1, l2, l3, l4, l5, l6, l7, l8] st σ = den mX6_odds 1 [some (.ref x), l1, l2, l3, l4, l5, l6, l7, l8] (.ref x :: st) σ) ∧
  (∀ (l0 l1 l2 l3 l4 l5 l6 l7 l8 : Option Value) (q : Nat) (st : List Value) (σ : dS), den mX6_odds 1 [l0, l1, l2, l3, l4, l5, l6, l7, l8] (.ref q :: st) σ = (dget σ q 5 1).bind fun v => den mX6_odds 4 [l0, l1, l2, l3, l4, l5, l6, l7, l8] (v :: st) σ) ∧
  (∀ (l0 l2 l3 l4 l5 l6 l7 l8 : Option Value) (x : Int32) (st : List Value) (σ : dS), den mX6_odds 4 [l0, some (.int x), l2, l3, l4, l5, l6, l7, l8] st σ = den mX6_odds 5 [l0, some (.int x), l2, l3, l4, l5, l6, l7, l8] (.int x :: st) σ) ∧
  (∀ (l0 l1 l2 l3 l4 l5 l6 l7 l8 : Option Value) (a0 : Int32) (q : Nat) (σ : dS), den mX6_odds 5 [l0, l1, l2, l3, l4, l5, l6, l7, l8] [.int a0, .ref q] σ = if disO σ q 2 = true then ((dcall mX3_hasGuard [.ref q, .int a0] σ).bind fun r => den mX6_odds 8 [l0, l1, l2, l3, l4, l5, l6, l7, l8] (r.1.toList ++ []) r.2) else none) ∧
  (∀ (l0 l1 l2 l3 l4 l5 l6 l7 l8 : Option Value) (x : Int32) (st : List Value) (σ : dS), den mX6_odds 8 [l0, l1, l2, l3, l4, l5, l6, l7, l8] (.int x :: st) σ = if x = 0 then den mX6_odds 20 [l0, l1, l2, l3, l4, l5, l6, l7, l8] st σ else den mX6_odds 11 [l0, l1, l2, l3, l4, l5, l6, l7, l8] st σ) ∧
  (∀ (l0 l1 l3 l4 l5 l6 l7 l8 : Option Value) (x : Int32) (st : List Value) (σ : dS), den mX6_odds 11 [l0, l1, some (.int x), l3, l4, l5, l6, l7, l8] st σ = den mX6_odds 12 [l0, l1, some (.int x), l3, l4, l5, l6, l7, l8] (.int x :: st) σ) ∧
  (∀ (l0 l1 l2 l3 l4 l5 l6 l7 l8 : Option Value) (x : Int32) (st : List Value) (σ : dS), den mX6_odds 12 [l0, l1, l2, l3, l4, l5, l6, l7, l8] (.int x :: st) σ = if x < 0 then den mX6_odds 20 [l0, l1, l2, l3, l4, l5, l6, l7, l8] st σ else den mX6_odds 15 [l0, l1, l2, l3, l4, l5, l6, l7, l8] st σ) ∧
  (∀ (l0 l1 l3 l4 l5 l6 l7 l8 : Option Value) (x : Int32) (st : List Value) (σ : dS), den mX6_odds 15 [l0, l1, some (.int x), l3, l4, l5, l6, l7, l8] st σ = den mX6_odds 16 [l0, l1, some (.int x), l3, l4, l5, l6, l7, l8] (.int x :: st) σ) ∧
  (∀ (l0 l1 l2 l3 l4 l5 l6 l7 l8 : Option Value) (st : List Value) (σ : dS), den mX6_odds 16 [l0, l1, l2, l3, l4, l5, l6, l7, l8] st σ = den mX6_odds 17 [l0, l1, l2, l3, l4, l5, l6, l7, l8] (.int (nI 1) :: st) σ) ∧
  (∀ (l0 l1 l2 l3 l4 l5 l6 l7 l8 : Option Value) (x y : Int32) (st : List Value) (σ : dS), den mX6_odds 17 [l0, l1, l2, l3, l4, l5, l6, l7, l8] (.int y :: .int x :: st) σ = if y < x then den mX6_odds 20 [l0, l1, l2, l3, l4, l5, l6, l7, l8] st σ else den mX6_odds 24 [l0, l1, l2, l3, l4, l5, l6, l7, l8] st σ) ∧
  (∀ (l0 l1 l2 l3 l4 l5 l6 l7 l8 : Option Value) (st : List Value) (σ : dS), den mX6_odds 20 [l0, l1, l2, l3, l4, l5, l6, l7, l8] st σ = den mX6_odds 23 [l0, l1, l2, l3, l4, l5, l6, l7, l8] (.long ((-1)) :: st) σ) ∧
  (∀ (l0 l1 l2 l3 l4 l5 l6 l7 l8 : Option Value) (v : Int64) (σ : dS), den mX6_odds 23 [l0, l1, l2, l3, l4, l5, l6, l7, l8] [.long v] σ = some (some (.long v), σ)) ∧
  (∀ (l0 l1 l2 l3 l4 l5 l6 l7 l8 : Option Value) (st : List Value) (σ : dS), den mX6_odds 24 [l0, l1, l2, l3, l4, l5, l6, l7, l8] st σ = den mX6_odds 25 [l0, l1, l2, l3, l4, l5, l6, l7, l8] (.long (lN 1) :: st) σ) ∧
  (∀ (l0 l1 l3 l4 l5 l6 l7 l8 : Option Value) (x : Int64) (y : Int32) (st : List Value) (σ : dS), den mX6_odds 25 [l0, l1, some (.int y), l3, l4, l5, l6, l7, l8] (.long x :: st) σ = den mX6_odds 26 [l0, l1, some (.int y), some (.long x), none, l5, l6, l7, l8] st σ) ∧
  (∀ (l0 l1 l2 l3 l4 l5 l6 l7 l8 : Option Value) (st : List Value) (σ : dS), den mX6_odds 26 [l0, l1, l2, l3, l4, l5, l6, l7, l8] st σ = den mX6_odds 27 [l0, l1, l2, l3, l4, l5, l6, l7, l8] (.long (lN 1) :: st) σ) ∧
  (∀ (l0 l1 l2 l3 l5 l6 l7 l8 : Option Value) (x : Int64) (st : List Value) (σ : dS), den mX6_odds 27 [l0, l1, l2, l3, none, l5, l6, l7, l8] (.long x :: st) σ = den mX6_odds 29 [l0, l1, l2, l3, none, some (.long x), none, l7, l8] st σ) ∧
  (∀ (l0 l2 l3 l4 l5 l6 l7 l8 : Option Value) (x : Int32) (st : List Value) (σ : dS), den mX6_odds 29 [l0, some (.int x), l2, l3, l4, l5, l6, l7, l8] st σ = den mX6_odds 30 [l0, some (.int x), l2, l3, l4, l5, l6, l7, l8] (.int x :: st) σ) ∧
  (∀ (l0 l1 l2 l3 l4 l5 l7 l8 : Option Value) (x : Int32) (st : List Value) (σ : dS), den mX6_odds 30 [l0, l1, l2, l3, l4, l5, none, l7, l8] (.int x :: st) σ = den mX6_odds 32 [l0, l1, l2, l3, l4, l5, none, some (.int x), l8] st σ) ∧
  (∀ (l0 l1 l2 l3 l4 l5 l6 l7 l8 : Option Value) (st : List Value) (σ : dS), den mX6_odds 32 [l0, l1, l2, l3, l4, l5, l6, l7, l8] st σ = den mX6_odds 33 [l0, l1, l2, l3, l4, l5, l6, l7, l8] (.int (nI 0) :: st) σ) ∧
  (∀ (l0 l1 l2 l3 l4 l5 l6 l8 : Option Value) (x : Int32) (y : Int32) (st : List Value) (σ : dS), den mX6_odds 33 [l0, l1, l2, l3, l4, l5, l6, some (.int y), l8] (.int x :: st) σ = den mX6_odds 35 [l0, l1, l2, l3, l4, l5, l6, some (.int y), some (.int x)] st σ) ∧
  (∀ (l0 l1 l2 l3 l4 l5 l6 l7 l8 : Option Value) (st : List Value) (σ : dS), den mX6_odds 37 [l0, l1, l2, l3, l4, l5, l6, l7, l8] st σ = den mX6_odds 39 [l0, l1, l2, l3, l4, l5, l6, l7, l8] (.int (nI 6) :: st) σ) ∧
  (∀ (l0 l1 l2 l3 l4 l5 l6 l7 l8 : Option Value) (x y : Int32) (st : List Value) (σ : dS), den mX6_odds 39 [l0, l1, l2, l3, l4, l5, l6, l7, l8] (.int y :: .int x :: st) σ = if x < y then den mX6_odds 42 [l0, l1, l2, l3, l4, l5, l6, l7, l8] st σ else den mX6_odds 85 [l0, l1, l2, l3, l4, l5, l6, l7, l8] st σ) ∧
  (∀ (l0 l1 l2 l3 l4 l5 l6 l8 : Option Value) (x : Int32) (st : List Value) (σ : dS), den mX6_odds 42 [l0, l1, l2, l3, l4, l5, l6, some (.int x), l8] st σ = den mX6_odds 44 [l0, l1, l2, l3, l4, l5, l6, some (.int x), l8] (.int x :: st) σ) ∧
  (∀ (l0 l1 l2 l3 l4 l5 l6 l7 l8 : Option Value) (x : Int32) (st : List Value) (σ : dS), den mX6_odds 44 [l0, l1, l2, l3, l4, l5, l6, l7, l8] (.int x :: st) σ = if 0 < x then den mX6_odds 47 [l0, l1, l2, l3, l4, l5, l6, l7, l8] st σ else den mX6_odds 85 [l0, l1, l2, l3, l4, l5, l6, l7, l8] st σ) ∧
  (∀ (l0 l1 l2 l4 l5 l6 l7 l8 : Option Value) (x : Int64) (st : List Value) (σ : dS), den mX6_odds 47 [l0, l1, l2, some (.long x), l4, l5, l6, l7, l8] st σ = den mX6_odds 48 [l0, l1, l2, some (.long x), l4, l5, l6, l7, l8] (.long x :: st) σ) ∧
  (∀ (l1 l2 l3 l4 l5 l6 l7 l8 : Option Value) (x : Nat) (st : List Value) (σ : dS), den mX6_odds 48 [some (.ref x), l1, l2, l3, l4, l5, l6, l7, l8] st σ = den mX6_odds 49 [some (.ref x), l1, l2, l3, l4, l5, l6, l7, l8] (.ref x :: st) σ) ∧
  (∀ (l0 l1 l2 l3 l4 l5 l6 l7 l8 : Option Value) (q : Nat) (st : List Value) (σ : dS), den mX6_odds 49 [l0, l1, l2, l3, l4, l5, l6, l7, l8] (.ref q :: st) σ = (dget σ q 5 1).bind fun v => den mX6_odds 52 [l0, l1, l2, l3, l4, l5, l6, l7, l8] (v :: st) σ) ∧
  (∀ (l0 l1 l2 l3 l4 l5 l6 l8 : Option Value) (x : Int32) (st : List Value) (σ : dS), den mX6_odds 52 [l0, l1, l2, l3, l4, l5, l6, some (.int x), l8] st σ = den mX6_odds 54 [l0, l1, l2, l3, l4, l5, l6, some (.int x), l8] (.int x :: st) σ) ∧
  (∀ (l0 l1 l2 l3 l4 l5 l6 l7 l8 : Option Value) (a0 : Int32) (b0 : Int64) (q : Nat) (σ : dS), den mX6_odds 54 [l0, l1, l2, l3, l4, l5, l6, l7, l8] [.int a0, .ref q, .long b0] σ = if disO σ q 2 = true then ((dcall mX3_tenthsOf [.ref q, .int a0] σ).bind fun r => den mX6_odds 57 [l0, l1, l2, l3, l4, l5, l6, l7, l8] (r.1.toList ++ [.long b0]) r.2) else none) ∧
  (∀ (l0 l1 l2 l3 l4 l5 l6 l7 l8 : Option Value) (x : Int32) (st : List Value) (σ : dS), den mX6_odds 57 [l0, l1, l2, l3, l4, l5, l6, l7, l8] (.int x :: st) σ = den mX6_odds 58 [l0, l1, l2, l3, l4, l5, l6, l7, l8] (.long x.toInt64 :: st) σ) ∧
  (∀ (l0 l1 l2 l3 l4 l5 l6 l7 l8 : Option Value) (x y : Int64) (st : List Value) (σ : dS), den mX6_odds 58 [l0, l1, l2, l3, l4, l5, l6, l7, l8] (.long y :: .long x :: st) σ = den mX6_odds 59 [l0, l1, l2, l3, l4, l5, l6, l7, l8] (.long (x * y) :: st) σ) ∧
  (∀ (l0 l1 l3 l4 l5 l6 l7 l8 : Option Value) (x : Int64) (y : Int32) (st : List Value) (σ : dS), den mX6_odds 59 [l0, l1, some (.int y), l3, l4, l5, l6, l7, l8] (.long x :: st) σ = den mX6_odds 60 [l0, l1, some (.int y), some (.long x), none, l5, l6, l7, l8] st σ) ∧
  (∀ (l0 l1 l2 l3 l4 l6 l7 l8 : Option Value) (x : Int64) (st : List Value) (σ : dS), den mX6_odds 60 [l0, l1, l2, l3, l4, some (.long x), l6, l7, l8] st σ = den mX6_odds 62 [l0, l1, l2, l3, l4, some (.long x), l6, l7, l8] (.long x :: st) σ) ∧
  (∀ (l0 l1 l2 l3 l4 l5 l6 l7 l8 : Option Value) (st : List Value) (σ : dS), den mX6_odds 62 [l0, l1, l2, l3, l4, l5, l6, l7, l8] st σ = den mX6_odds 65 [l0, l1, l2, l3, l4, l5, l6, l7, l8] (.long (lN 10) :: st) σ) ∧
  (∀ (l0 l1 l2 l3 l4 l5 l6 l7 l8 : Option Value) (x y : Int64) (st : List Value) (σ : dS), den mX6_odds 65 [l0, l1, l2, l3, l4, l5, l6, l7, l8] (.long y :: .long x :: st) σ = den mX6_odds 66 [l0, l1, l2, l3, l4, l5, l6, l7, l8] (.long (x * y) :: st) σ) ∧
  (∀ (l0 l1 l2 l3 l5 l6 l7 l8 : Option Value) (x : Int64) (st : List Value) (σ : dS), den mX6_odds 66 [l0, l1, l2, l3, none, l5, l6, l7, l8] (.long x :: st) σ = den mX6_odds 68 [l0, l1, l2, l3, none, some (.long x), none, l7, l8] st σ) ∧
  (∀ (l1 l2 l3 l4 l5 l6 l7 l8 : Option Value) (x : Nat) (st : List Value) (σ : dS), den mX6_odds 68 [some (.ref x), l1, l2, l3, l4, l5, l6, l7, l8] st σ = den mX6_odds 69 [some (.ref x), l1, l2, l3, l4, l5, l6, l7, l8] (.ref x :: st) σ) ∧
  (∀ (l0 l1 l2 l3 l4 l5 l6 l7 l8 : Option Value) (q : Nat) (st : List Value) (σ : dS), den mX6_odds 69 [l0, l1, l2, l3, l4, l5, l6, l7, l8] (.ref q :: st) σ = (dget σ q 5 1).bind fun v => den mX6_odds 72 [l0, l1, l2, l3, l4, l5, l6, l7, l8] (v :: st) σ) ∧
  (∀ (l0 l1 l2 l3 l4 l5 l6 l8 : Option Value) (x : Int32) (st : List Value) (σ : dS), den mX6_odds 72 [l0, l1, l2, l3, l4, l5, l6, some (.int x), l8] st σ = den mX6_odds 74 [l0, l1, l2, l3, l4, l5, l6, some (.int x), l8] (.int x :: st) σ) ∧
  (∀ (l0 l1 l2 l3 l4 l5 l6 l7 l8 : Option Value) (a0 : Int32) (q : Nat) (σ : dS), den mX6_odds 74 [l0, l1, l2, l3, l4, l5, l6, l7, l8] [.int a0, .ref q] σ = if disO σ q 2 = true then ((dcall mX3_parentOf [.ref q, .int a0] σ).bind fun r => den mX6_odds 77 [l0, l1, l2, l3, l4, l5, l6, l7, l8] (r.1.toList ++ []) r.2) else none) :=
  ⟨fun l1 l2 l3 l4 l5 l6 l7 l8 x st σ => dn_aload_n eX6_odds dX6_odds_0 rfl,
  fun l0 l1 l2 l3 l4 l5 l6 l7 l8 q st σ => dn_getfield (f := (5, 1, 260)) eX6_odds dX6_odds_1 (by decide +kernel),
  fun l0 l2 l3 l4 l5 l6 l7 l8 x st σ => dn_iload_n eX6_odds dX6_odds_4 rfl,
  fun l0 l1 l2 l3 l4 l5 l6 l7 l8 a0 q σ => rX6_odds_5 l0 l1 l2 l3 l4 l5 l6 l7 l8 a0 q σ,
  fun l0 l1 l2 l3 l4 l5 l6 l7 l8 x st σ => dn_if_eq eX6_odds dX6_odds_8 (by decide),
  fun l0 l1 l3 l4 l5 l6 l7 l8 x st σ => dn_iload_n eX6_odds dX6_odds_11 rfl,
  fun l0 l1 l2 l3 l4 l5 l6 l7 l8 x st σ => dn_if_lt eX6_odds dX6_odds_12 (by decide),
  fun l0 l1 l3 l4 l5 l6 l7 l8 x st σ => dn_iload_n eX6_odds dX6_odds_15 rfl,
  fun l0 l1 l2 l3 l4 l5 l6 l7 l8 st σ => dn_iconst eX6_odds dX6_odds_16 kc_iconst_1,
  fun l0 l1 l2 l3 l4 l5 l6 l7 l8 x y st σ => dn_icmp_le eX6_odds dX6_odds_17 (by decide),
  fun l0 l1 l2 l3 l4 l5 l6 l7 l8 st σ => dn_ldc2_w (w := -1) (p := 610) eX6_odds dX6_odds_20 (by decide +kernel) (by decide +kernel),
  fun l0 l1 l2 l3 l4 l5 l6 l7 l8 v σ => dn_lreturn eX6_odds dX6_odds_23 rfl,
  fun l0 l1 l2 l3 l4 l5 l6 l7 l8 st σ => dn_lconst eX6_odds dX6_odds_24 kc_lconst_1,
  fun l0 l1 l3 l4 l5 l6 l7 l8 x y st σ => dn_lstore_n eX6_odds dX6_odds_25 rfl,
  fun l0 l1 l2 l3 l4 l5 l6 l7 l8 st σ => dn_lconst eX6_odds dX6_odds_26 kc_lconst_1,
  fun l0 l1 l2 l3 l5 l6 l7 l8 x st σ => dn_lstore eX6_odds dX6_odds_27 rfl,
  fun l0 l2 l3 l4 l5 l6 l7 l8 x st σ => dn_iload_n eX6_odds dX6_odds_29 rfl,
  fun l0 l1 l2 l3 l4 l5 l7 l8 x st σ => dn_istore eX6_odds dX6_odds_30 rfl,
  fun l0 l1 l2 l3 l4 l5 l6 l7 l8 st σ => dn_iconst eX6_odds dX6_odds_32 kc_iconst_0,
  fun l0 l1 l2 l3 l4 l5 l6 l8 x y st σ => dn_istore eX6_odds dX6_odds_33 rfl,
  fun l0 l1 l2 l3 l4 l5 l6 l7 l8 st σ => dn_bipush eX6_odds dX6_odds_37 kc_bipush_6,
  fun l0 l1 l2 l3 l4 l5 l6 l7 l8 x y st σ => dn_icmp_ge eX6_odds dX6_odds_39 (by decide),
  fun l0 l1 l2 l3 l4 l5 l6 l8 x st σ => dn_iload eX6_odds dX6_odds_42 rfl,
  fun l0 l1 l2 l3 l4 l5 l6 l7 l8 x st σ => dn_if_le eX6_odds dX6_odds_44 (by decide),
  fun l0 l1 l2 l4 l5 l6 l7 l8 x st σ => dn_lload_n eX6_odds dX6_odds_47 rfl,
  fun l1 l2 l3 l4 l5 l6 l7 l8 x st σ => dn_aload_n eX6_odds dX6_odds_48 rfl,
  fun l0 l1 l2 l3 l4 l5 l6 l7 l8 q st σ => dn_getfield (f := (5, 1, 260)) eX6_odds dX6_odds_49 (by decide +kernel),
  fun l0 l1 l2 l3 l4 l5 l6 l8 x st σ => dn_iload eX6_odds dX6_odds_52 rfl,
  fun l0 l1 l2 l3 l4 l5 l6 l7 l8 a0 b0 q σ => rX6_odds_54 l0 l1 l2 l3 l4 l5 l6 l7 l8 a0 b0 q σ,
  fun l0 l1 l2 l3 l4 l5 l6 l7 l8 x st σ => dn_i2l eX6_odds dX6_odds_57,
  fun l0 l1 l2 l3 l4 l5 l6 l7 l8 x y st σ => dn_lmul eX6_odds dX6_odds_58,
  fun l0 l1 l3 l4 l5 l6 l7 l8 x y st σ => dn_lstore_n eX6_odds dX6_odds_59 rfl,
  fun l0 l1 l2 l3 l4 l6 l7 l8 x st σ => dn_lload eX6_odds dX6_odds_60 rfl,
  fun l0 l1 l2 l3 l4 l5 l6 l7 l8 st σ => dn_ldc2_w (w := 10) (p := 627) eX6_odds dX6_odds_62 (by decide +kernel) (by decide +kernel),
  fun l0 l1 l2 l3 l4 l5 l6 l7 l8 x y st σ => dn_lmul eX6_odds dX6_odds_65,
  fun l0 l1 l2 l3 l5 l6 l7 l8 x st σ => dn_lstore eX6_odds dX6_odds_66 rfl,
  fun l1 l2 l3 l4 l5 l6 l7 l8 x st σ => dn_aload_n eX6_odds dX6_odds_68 rfl,
  fun l0 l1 l2 l3 l4 l5 l6 l7 l8 q st σ => dn_getfield (f := (5, 1, 260)) eX6_odds dX6_odds_69 (by decide +kernel),
  fun l0 l1 l2 l3 l4 l5 l6 l8 x st σ => dn_iload eX6_odds dX6_odds_72 rfl,
  fun l0 l1 l2 l3 l4 l5 l6 l7 l8 a0 q σ => rX6_odds_74 l0 l1 l2 l3 l4 l5 l6 l7 l8 a0 q σ⟩
set_option maxRecDepth 20000 in
theorem SX6_odds_1 : (∀ (l0 l1 l2 l3 l4 l5 l7 l8 : Option Value) (x : Int32) (st : List Value) (σ : dS), den mX6_odds 77 [l0, l1, l2, l3, l4, l5, none, l7, l8] (.int x :: st) σ = den mX6_odds 79 [l0, l1, l2, l3, l4, l5, none, some (.int x), l8] st σ) ∧
  (∀ (l0 l1 l2 l3 l4 l5 l6 : Option Value) (x : Int32) (y : Int32) (st : List Value) (σ : dS), den mX6_odds 79 [l0, l1, l2, l3, l4, l5, l6, some (.int y), some (.int x)] st σ = den mX6_odds 82 [l0, l1, l2, l3, l4, l5, l6, some (.int y), some (.int (x + nI 1))] st σ) ∧
  (∀ (l0 l1 l2 l3 l4 l5 l6 l7 l8 : Option Value) (st : List Value) (σ : dS), den mX6_odds 82 [l0, l1, l2, l3, l4, l5, l6, l7, l8] st σ = den mX6_odds 35 [l0, l1, l2, l3, l4, l5, l6, l7, l8] st σ) ∧
  (∀ (l0 l1 l2 l4 l5 l6 l7 l8 : Option Value) (x : Int64) (st : List Value) (σ : dS), den mX6_odds 85 [l0, l1, l2, some (.long x), l4, l5, l6, l7, l8] st σ = den mX6_odds 86 [l0, l1, l2, some (.long x), l4, l5, l6, l7, l8] (.long x :: st) σ) ∧
  (∀ (l0 l1 l2 l3 l4 l6 l7 l8 : Option Value) (x : Int64) (st : List Value) (σ : dS), den mX6_odds 86 [l0, l1, l2, l3, l4, some (.long x), l6, l7, l8] st σ = den mX6_odds 88 [l0, l1, l2, l3, l4, some (.long x), l6, l7, l8] (.long x :: st) σ) ∧
  (∀ (l0 l1 l3 l4 l5 l6 l7 l8 : Option Value) (x : Int32) (st : List Value) (σ : dS), den mX6_odds 88 [l0, l1, some (.int x), l3, l4, l5, l6, l7, l8] st σ = den mX6_odds 89 [l0, l1, some (.int x), l3, l4, l5, l6, l7, l8] (.int x :: st) σ) ∧
  (∀ (l0 l1 l2 l3 l4 l5 l6 l7 l8 : Option Value) (a0 : Int64) (a1 : Int64) (a2 : Int32) (σ : dS), den mX6_odds 89 [l0, l1, l2, l3, l4, l5, l6, l7, l8] [.int a2, .long a1, .long a0] σ = (dcall mX6_partOfFraction [.long a0, .long a1, .int a2] σ).bind fun r => den mX6_odds 92 [l0, l1, l2, l3, l4, l5, l6, l7, l8] (r.1.toList ++ []) r.2) ∧
  (∀ (l0 l1 l2 l3 l4 l5 l6 l7 l8 : Option Value) (v : Int64) (σ : dS), den mX6_odds 92 [l0, l1, l2, l3, l4, l5, l6, l7, l8] [.long v] σ = some (some (.long v), σ)) :=
  ⟨fun l0 l1 l2 l3 l4 l5 l7 l8 x st σ => dn_istore eX6_odds dX6_odds_77 rfl,
  fun l0 l1 l2 l3 l4 l5 l6 x y st σ => dn_iinc (v := nI 1) eX6_odds dX6_odds_79 rfl kc_iconst_1 rfl,
  fun l0 l1 l2 l3 l4 l5 l6 l7 l8 st σ => dn_goto eX6_odds dX6_odds_82 (by decide),
  fun l0 l1 l2 l4 l5 l6 l7 l8 x st σ => dn_lload_n eX6_odds dX6_odds_85 rfl,
  fun l0 l1 l2 l3 l4 l6 l7 l8 x st σ => dn_lload eX6_odds dX6_odds_86 rfl,
  fun l0 l1 l3 l4 l5 l6 l7 l8 x st σ => dn_iload_n eX6_odds dX6_odds_88 rfl,
  fun l0 l1 l2 l3 l4 l5 l6 l7 l8 a0 a1 a2 σ => dn_callS (e := (1, 86, 612)) (as := [.long a0, .long a1, .int a2]) (rest := []) eX6_odds dX6_odds_89 (by decide +kernel) (Or.inl rfl) (by decide +kernel) rfl (dcat_le rfl) (dlen_le rfl) rfl,
  fun l0 l1 l2 l3 l4 l5 l6 l7 l8 v σ => dn_lreturn eX6_odds dX6_odds_92 rfl⟩
theorem CX6_live (a0 : Nat) (a1 : Int32) (σ : dS) : dcall mX6_live [.ref a0, .int a1] σ = den mX6_live 0 [some (.ref a0), some (.int a1)] [] σ := dcall_den (by decide) rfl
theorem rX6_live_5 (l0 l1 : Option Value) (a0 : Int32) (q : Nat) (σ : dS) : den mX6_live 5 [l0, l1] [.int a0, .ref q] σ = if disO σ q 2 = true then ((dcall mX3_hasInstruction [.ref q, .int a0] σ).bind fun r => den mX6_live 8 [l0, l1] (r.1.toList ++ []) r.2) else none := by
  by_cases h : disO σ q 2 = true
  · rw [if_pos h]; exact dn_callV (e := (0, 28, 494)) (as := [.int a0]) (rest := []) eX6_live dX6_live_5 (by decide +kernel) rfl (by decide +kernel) rfl (dcat_le rfl) (dlen_le rfl) rfl h
  · rw [if_neg h]; exact den_noV (e := (0, 28, 494)) (as := [.int a0]) (rest := []) eX6_live dX6_live_5 (by decide +kernel) rfl rfl rfl h
set_option maxRecDepth 20000 in
theorem SX6_live : (∀ (l1 : Option Value) (x : Nat) (st : List Value) (σ : dS), den mX6_live 0 [some (.ref x), l1] st σ = den mX6_live 1 [some (.ref x), l1] (.ref x :: st) σ) ∧
  (∀ (l0 l1 : Option Value) (q : Nat) (st : List Value) (σ : dS), den mX6_live 1 [l0, l1] (.ref q :: st) σ = (dget σ q 5 1).bind fun v => den mX6_live 4 [l0, l1] (v :: st) σ) ∧
  (∀ (l0 : Option Value) (x : Int32) (st : List Value) (σ : dS), den mX6_live 4 [l0, some (.int x)] st σ = den mX6_live 5 [l0, some (.int x)] (.int x :: st) σ) ∧
  (∀ (l0 l1 : Option Value) (a0 : Int32) (q : Nat) (σ : dS), den mX6_live 5 [l0, l1] [.int a0, .ref q] σ = if disO σ q 2 = true then ((dcall mX3_hasInstruction [.ref q, .int a0] σ).bind fun r => den mX6_live 8 [l0, l1] (r.1.toList ++ []) r.2) else none) ∧
  (∀ (l0 l1 : Option Value) (x : Int32) (st : List Value) (σ : dS), den mX6_live 8 [l0, l1] (.int x :: st) σ = if x = 0 then den mX6_live 24 [l0, l1] st σ else den mX6_live 11 [l0, l1] st σ) ∧
  (∀ (l1 : Option Value) (x : Nat) (st : List Value) (σ : dS), den mX6_live 11 [some (.ref x), l1] st σ = den mX6_live 12 [some (.ref x), l1] (.ref x :: st) σ) ∧
  (∀ (l0 l1 : Option Value) (q : Nat) (st : List Value) (σ : dS), den mX6_live 12 [l0, l1] (.ref q :: st) σ = (dget σ q 5 1).bind fun v => den mX6_live 15 [l0, l1] (v :: st) σ) ∧
  (∀ (l0 l1 : Option Value) (q : Nat) (st : List Value) (σ : dS), den mX6_live 15 [l0, l1] (.ref q :: st) σ = (dget σ q 2 0).bind fun v => den mX6_live 18 [l0, l1] (v :: st) σ) ∧
  (∀ (l0 : Option Value) (x : Int32) (st : List Value) (σ : dS), den mX6_live 18 [l0, some (.int x)] st σ = den mX6_live 19 [l0, some (.int x)] (.int x :: st) σ) ∧
  (∀ (l0 l1 : Option Value) (q : Nat) (i : Int32) (st : List Value) (σ : dS), den mX6_live 19 [l0, l1] (.int i :: .ref q :: st) σ = if q ≤ dN then (dald σ q 0 i).bind (fun v => den mX6_live 20 [l0, l1] (.int v :: st) σ) else none) ∧
  (∀ (l0 l1 : Option Value) (st : List Value) (σ : dS), den mX6_live 20 [l0, l1] st σ = den mX6_live 21 [l0, l1] (.int (nI 5) :: st) σ) ∧
  (∀ (l0 l1 : Option Value) (x y : Int32) (st : List Value) (σ : dS), den mX6_live 21 [l0, l1] (.int y :: .int x :: st) σ = if x = y then den mX6_live 24 [l0, l1] st σ else den mX6_live 26 [l0, l1] st σ) ∧
  (∀ (l0 l1 : Option Value) (st : List Value) (σ : dS), den mX6_live 24 [l0, l1] st σ = den mX6_live 25 [l0, l1] (.int ((-1)) :: st) σ) ∧
  (∀ (l0 l1 : Option Value) (v : Int32) (σ : dS), den mX6_live 25 [l0, l1] [.int v] σ = some (some (.int v), σ)) ∧
  (∀ (l1 : Option Value) (x : Nat) (st : List Value) (σ : dS), den mX6_live 26 [some (.ref x), l1] st σ = den mX6_live 27 [some (.ref x), l1] (.ref x :: st) σ) ∧
  (∀ (l0 l1 : Option Value) (q : Nat) (st : List Value) (σ : dS), den mX6_live 27 [l0, l1] (.ref q :: st) σ = (dget σ q 5 1).bind fun v => den mX6_live 30 [l0, l1] (v :: st) σ) ∧
  (∀ (l0 l1 : Option Value) (a0 : Nat) (σ : dS), den mX6_live 30 [l0, l1] [.ref a0] σ = (dcall mX1_liveOnes [.ref a0] σ).bind fun r => den mX6_live 33 [l0, l1] (r.1.toList ++ []) r.2) ∧
  (∀ (l0 : Option Value) (x : Int32) (st : List Value) (σ : dS), den mX6_live 33 [l0, some (.int x)] st σ = den mX6_live 34 [l0, some (.int x)] (.int x :: st) σ) ∧
  (∀ (l0 l1 : Option Value) (x y : Int32) (st : List Value) (σ : dS), den mX6_live 34 [l0, l1] (.int y :: .int x :: st) σ = den mX6_live 35 [l0, l1] (.int (x >>> (y &&& 31)) :: st) σ) ∧
  (∀ (l0 l1 : Option Value) (st : List Value) (σ : dS), den mX6_live 35 [l0, l1] st σ = den mX6_live 36 [l0, l1] (.int (nI 1) :: st) σ) ∧
  (∀ (l0 l1 : Option Value) (x y : Int32) (st : List Value) (σ : dS), den mX6_live 36 [l0, l1] (.int y :: .int x :: st) σ = den mX6_live 37 [l0, l1] (.int (x &&& y) :: st) σ) ∧
  (∀ (l0 l1 : Option Value) (v : Int32) (σ : dS), den mX6_live 37 [l0, l1] [.int v] σ = some (some (.int v), σ)) :=
  ⟨fun l1 x st σ => dn_aload_n eX6_live dX6_live_0 rfl,
  fun l0 l1 q st σ => dn_getfield (f := (5, 1, 260)) eX6_live dX6_live_1 (by decide +kernel),
  fun l0 x st σ => dn_iload_n eX6_live dX6_live_4 rfl,
  fun l0 l1 a0 q σ => rX6_live_5 l0 l1 a0 q σ,
  fun l0 l1 x st σ => dn_if_eq eX6_live dX6_live_8 (by decide),
  fun l1 x st σ => dn_aload_n eX6_live dX6_live_11 rfl,
  fun l0 l1 q st σ => dn_getfield (f := (5, 1, 260)) eX6_live dX6_live_12 (by decide +kernel),
  fun l0 l1 q st σ => dn_getfield (f := (2, 0, 88)) eX6_live dX6_live_15 (by decide +kernel),
  fun l0 x st σ => dn_iload_n eX6_live dX6_live_18 rfl,
  fun l0 l1 q i st σ => dn_iaload eX6_live dX6_live_19,
  fun l0 l1 st σ => dn_iconst eX6_live dX6_live_20 kc_iconst_5,
  fun l0 l1 x y st σ => dn_icmp_ne eX6_live dX6_live_21 (by decide),
  fun l0 l1 st σ => dn_iconst eX6_live dX6_live_24 kc_iconst_m1,
  fun l0 l1 v σ => dn_ireturn eX6_live dX6_live_25 rfl,
  fun l1 x st σ => dn_aload_n eX6_live dX6_live_26 rfl,
  fun l0 l1 q st σ => dn_getfield (f := (5, 1, 260)) eX6_live dX6_live_27 (by decide +kernel),
  fun l0 l1 a0 σ => dn_callS (e := (1, 17, 632)) (as := [.ref a0]) (rest := []) eX6_live dX6_live_30 (by decide +kernel) (Or.inl rfl) (by decide +kernel) rfl (dcat_le rfl) (dlen_le rfl) rfl,
  fun l0 x st σ => dn_iload_n eX6_live dX6_live_33 rfl,
  fun l0 l1 x y st σ => dn_ishr eX6_live dX6_live_34,
  fun l0 l1 st σ => dn_iconst eX6_live dX6_live_35 kc_iconst_1,
  fun l0 l1 x y st σ => dn_iand eX6_live dX6_live_36,
  fun l0 l1 v σ => dn_ireturn eX6_live dX6_live_37 rfl⟩
theorem CX6_out (a0 : Nat) (a1 : Int32) (σ : dS) : dcall mX6_out [.ref a0, .int a1] σ = den mX6_out 0 [some (.ref a0), some (.int a1), none] [] σ := dcall_den (by decide) rfl
set_option maxRecDepth 20000 in
theorem SX6_out : (∀ (l0 l2 : Option Value) (x : Int32) (st : List Value) (σ : dS), den mX6_out 0 [l0, some (.int x), l2] st σ = den mX6_out 1 [l0, some (.int x), l2] (.int x :: st) σ) ∧
  (∀ (l0 l1 l2 : Option Value) (x : Int32) (st : List Value) (σ : dS), den mX6_out 1 [l0, l1, l2] (.int x :: st) σ = if x < 0 then den mX6_out 11 [l0, l1, l2] st σ else den mX6_out 4 [l0, l1, l2] st σ) ∧
  (∀ (l0 l2 : Option Value) (x : Int32) (st : List Value) (σ : dS), den mX6_out 4 [l0, some (.int x), l2] st σ = den mX6_out 5 [l0, some (.int x), l2] (.int x :: st) σ) ∧
  (∀ (l0 l1 l2 : Option Value) (st : List Value) (σ : dS), den mX6_out 5 [l0, l1, l2] st σ = den mX6_out 8 [l0, l1, l2] (.int (nI 255) :: st) σ) ∧
  (∀ (l0 l1 l2 : Option Value) (x y : Int32) (st : List Value) (σ : dS), den mX6_out 8 [l0, l1, l2] (.int y :: .int x :: st) σ = if y < x then den mX6_out 11 [l0, l1, l2] st σ else den mX6_out 13 [l0, l1, l2] st σ) ∧
  (∀ (l0 l1 l2 : Option Value) (st : List Value) (σ : dS), den mX6_out 11 [l0, l1, l2] st σ = den mX6_out 12 [l0, l1, l2] (.int ((-1)) :: st) σ) ∧
  (∀ (l0 l1 l2 : Option Value) (v : Int32) (σ : dS), den mX6_out 12 [l0, l1, l2] [.int v] σ = some (some (.int v), σ)) ∧
  (∀ (l1 l2 : Option Value) (x : Nat) (st : List Value) (σ : dS), den mX6_out 13 [some (.ref x), l1, l2] st σ = den mX6_out 14 [some (.ref x), l1, l2] (.ref x :: st) σ) ∧
  (∀ (l0 l1 l2 : Option Value) (q : Nat) (st : List Value) (σ : dS), den mX6_out 14 [l0, l1, l2] (.ref q :: st) σ = (dget σ q 5 1).bind fun v => den mX6_out 17 [l0, l1, l2] (v :: st) σ) ∧
  (∀ (l0 l1 l2 : Option Value) (q : Nat) (st : List Value) (σ : dS), den mX6_out 17 [l0, l1, l2] (.ref q :: st) σ = (dget σ q 2 9).bind fun v => den mX6_out 20 [l0, l1, l2] (v :: st) σ) ∧
  (∀ (l0 l2 : Option Value) (x : Int32) (y : Int32) (st : List Value) (σ : dS), den mX6_out 20 [l0, some (.int y), l2] (.int x :: st) σ = den mX6_out 21 [l0, some (.int y), some (.int x)] st σ) ∧
  (∀ (l1 l2 : Option Value) (x : Nat) (st : List Value) (σ : dS), den mX6_out 21 [some (.ref x), l1, l2] st σ = den mX6_out 22 [some (.ref x), l1, l2] (.ref x :: st) σ) ∧
  (∀ (l0 l1 l2 : Option Value) (q : Nat) (st : List Value) (σ : dS), den mX6_out 22 [l0, l1, l2] (.ref q :: st) σ = (dget σ q 5 1).bind fun v => den mX6_out 25 [l0, l1, l2] (v :: st) σ) ∧
  (∀ (l0 l2 : Option Value) (x : Int32) (st : List Value) (σ : dS), den mX6_out 25 [l0, some (.int x), l2] st σ = den mX6_out 26 [l0, some (.int x), l2] (.int x :: st) σ) ∧
  (∀ (l0 l1 l2 : Option Value) (x : Int32) (q : Nat) (st : List Value) (σ : dS), den mX6_out 26 [l0, l1, l2] (.int x :: .ref q :: st) σ = (dput σ q 2 9 (.int x)).bind fun τ => den mX6_out 29 [l0, l1, l2] st τ) ∧
  (∀ (l0 l1 : Option Value) (x : Int32) (st : List Value) (σ : dS), den mX6_out 29 [l0, l1, some (.int x)] st σ = den mX6_out 30 [l0, l1, some (.int x)] (.int x :: st) σ) ∧
  (∀ (l0 l1 l2 : Option Value) (v : Int32) (σ : dS), den mX6_out 30 [l0, l1, l2] [.int v] σ = some (some (.int v), σ)) :=
  ⟨fun l0 l2 x st σ => dn_iload_n eX6_out dX6_out_0 rfl,
  fun l0 l1 l2 x st σ => dn_if_lt eX6_out dX6_out_1 (by decide),
  fun l0 l2 x st σ => dn_iload_n eX6_out dX6_out_4 rfl,
  fun l0 l1 l2 st σ => dn_sipush eX6_out dX6_out_5 kc_sipush_255,
  fun l0 l1 l2 x y st σ => dn_icmp_le eX6_out dX6_out_8 (by decide),
  fun l0 l1 l2 st σ => dn_iconst eX6_out dX6_out_11 kc_iconst_m1,
  fun l0 l1 l2 v σ => dn_ireturn eX6_out dX6_out_12 rfl,
  fun l1 l2 x st σ => dn_aload_n eX6_out dX6_out_13 rfl,
  fun l0 l1 l2 q st σ => dn_getfield (f := (5, 1, 260)) eX6_out dX6_out_14 (by decide +kernel),
  fun l0 l1 l2 q st σ => dn_getfield (f := (2, 9, 120)) eX6_out dX6_out_17 (by decide +kernel),
  fun l0 l2 x y st σ => dn_istore_n eX6_out dX6_out_20 rfl,
  fun l1 l2 x st σ => dn_aload_n eX6_out dX6_out_21 rfl,
  fun l0 l1 l2 q st σ => dn_getfield (f := (5, 1, 260)) eX6_out dX6_out_22 (by decide +kernel),
  fun l0 l2 x st σ => dn_iload_n eX6_out dX6_out_25 rfl,
  fun l0 l1 l2 x q st σ => dn_putfield (f := (2, 9, 120)) (ty := .int) eX6_out dX6_out_26 (by decide +kernel) (by decide +kernel) rfl,
  fun l0 l1 x st σ => dn_iload_n eX6_out dX6_out_29 rfl,
  fun l0 l1 l2 v σ => dn_ireturn eX6_out dX6_out_30 rfl⟩
theorem CX6_sweep (a0 : Nat) (σ : dS) : dcall mX6_sweep [.ref a0] σ = den mX6_sweep 0 [some (.ref a0), none, none, none] [] σ := dcall_den (by decide) rfl
theorem hX6_sweep_12 (l0 l1 l2 : Option Value) (x : Int32) (st : List Value) (σ : dS) : den mX6_sweep 12 [l0, l1, l2, some (.int x)] st σ = den mX6_sweep 13 [l0, l1, l2, some (.int x)] (.int x :: st) σ := dn_iload_n eX6_sweep dX6_sweep_12 rfl
theorem rX6_sweep_33 (l0 l1 l2 l3 : Option Value) (a0 : Int32) (q : Nat) (σ : dS) : den mX6_sweep 33 [l0, l1, l2, l3] [.int a0, .ref q] σ = if disO σ q 2 = true then ((dcall mX3_dropUnread [.ref q, .int a0] σ).bind fun r => den mX6_sweep 36 [l0, l1, l2, l3] (r.1.toList ++ []) r.2) else none := by
  by_cases h : disO σ q 2 = true
  · rw [if_pos h]; exact dn_callV (e := (0, 47, 650)) (as := [.int a0]) (rest := []) eX6_sweep dX6_sweep_33 (by decide +kernel) rfl (by decide +kernel) rfl (dcat_le rfl) (dlen_le rfl) rfl h
  · rw [if_neg h]; exact den_noV (e := (0, 47, 650)) (as := [.int a0]) (rest := []) eX6_sweep dX6_sweep_33 (by decide +kernel) rfl rfl rfl h
set_option maxRecDepth 20000 in
theorem SX6_sweep : (∀ (l1 l2 l3 : Option Value) (x : Nat) (st : List Value) (σ : dS), den mX6_sweep 0 [some (.ref x), l1, l2, l3] st σ = den mX6_sweep 1 [some (.ref x), l1, l2, l3] (.ref x :: st) σ) ∧
  (∀ (l0 l1 l2 l3 : Option Value) (q : Nat) (st : List Value) (σ : dS), den mX6_sweep 1 [l0, l1, l2, l3] (.ref q :: st) σ = (dget σ q 5 1).bind fun v => den mX6_sweep 4 [l0, l1, l2, l3] (v :: st) σ) ∧
  (∀ (l0 l1 l2 l3 : Option Value) (q : Nat) (st : List Value) (σ : dS), den mX6_sweep 4 [l0, l1, l2, l3] (.ref q :: st) σ = (dget σ q 2 7).bind fun v => den mX6_sweep 7 [l0, l1, l2, l3] (v :: st) σ) ∧
  (∀ (l1 l2 l3 : Option Value) (x : Int32) (y : Nat) (st : List Value) (σ : dS), den mX6_sweep 7 [some (.ref y), l1, l2, l3] (.int x :: st) σ = den mX6_sweep 8 [some (.ref y), some (.int x), l2, l3] st σ) ∧
  (∀ (l0 l1 l2 l3 : Option Value) (st : List Value) (σ : dS), den mX6_sweep 8 [l0, l1, l2, l3] st σ = den mX6_sweep 9 [l0, l1, l2, l3] (.int (nI 1) :: st) σ) ∧
  (∀ (l0 l2 l3 : Option Value) (x : Int32) (y : Int32) (st : List Value) (σ : dS), den mX6_sweep 9 [l0, some (.int y), l2, l3] (.int x :: st) σ = den mX6_sweep 10 [l0, some (.int y), some (.int x), l3] st σ) ∧
  (∀ (l0 l1 l2 l3 : Option Value) (st : List Value) (σ : dS), den mX6_sweep 10 [l0, l1, l2, l3] st σ = den mX6_sweep 11 [l0, l1, l2, l3] (.int (nI 0) :: st) σ) ∧
  (∀ (l0 l1 l3 : Option Value) (x : Int32) (y : Int32) (st : List Value) (σ : dS), den mX6_sweep 11 [l0, l1, some (.int y), l3] (.int x :: st) σ = den mX6_sweep 12 [l0, l1, some (.int y), some (.int x)] st σ) ∧
  (∀ (l0 l1 l2 l3 : Option Value) (st : List Value) (σ : dS), den mX6_sweep 13 [l0, l1, l2, l3] st σ = den mX6_sweep 15 [l0, l1, l2, l3] (.int (nI 24) :: st) σ) ∧
  (∀ (l0 l1 l2 l3 : Option Value) (x y : Int32) (st : List Value) (σ : dS), den mX6_sweep 15 [l0, l1, l2, l3] (.int y :: .int x :: st) σ = if y < x then den mX6_sweep 43 [l0, l1, l2, l3] st σ else den mX6_sweep 18 [l0, l1, l2, l3] st σ) ∧
  (∀ (l0 l1 l3 : Option Value) (x : Int32) (st : List Value) (σ : dS), den mX6_sweep 18 [l0, l1, some (.int x), l3] st σ = den mX6_sweep 19 [l0, l1, some (.int x), l3] (.int x :: st) σ) ∧
  (∀ (l0 l1 l2 l3 : Option Value) (x : Int32) (st : List Value) (σ : dS), den mX6_sweep 19 [l0, l1, l2, l3] (.int x :: st) σ = if 0 < x then den mX6_sweep 22 [l0, l1, l2, l3] st σ else den mX6_sweep 43 [l0, l1, l2, l3] st σ) ∧
  (∀ (l1 l2 l3 : Option Value) (x : Nat) (st : List Value) (σ : dS), den mX6_sweep 22 [some (.ref x), l1, l2, l3] st σ = den mX6_sweep 23 [some (.ref x), l1, l2, l3] (.ref x :: st) σ) ∧
  (∀ (l0 l1 l2 l3 : Option Value) (q : Nat) (st : List Value) (σ : dS), den mX6_sweep 23 [l0, l1, l2, l3] (.ref q :: st) σ = (dget σ q 5 1).bind fun v => den mX6_sweep 26 [l0, l1, l2, l3] (v :: st) σ) ∧
  (∀ (l1 l2 l3 : Option Value) (x : Nat) (st : List Value) (σ : dS), den mX6_sweep 26 [some (.ref x), l1, l2, l3] st σ = den mX6_sweep 27 [some (.ref x), l1, l2, l3] (.ref x :: st) σ) ∧
  (∀ (l0 l1 l2 l3 : Option Value) (q : Nat) (st : List Value) (σ : dS), den mX6_sweep 27 [l0, l1, l2, l3] (.ref q :: st) σ = (dget σ q 5 1).bind fun v => den mX6_sweep 30 [l0, l1, l2, l3] (v :: st) σ) ∧
  (∀ (l0 l1 l2 l3 : Option Value) (a0 : Nat) (b0 : Nat) (σ : dS), den mX6_sweep 30 [l0, l1, l2, l3] [.ref a0, .ref b0] σ = (dcall mX1_liveOnes [.ref a0] σ).bind fun r => den mX6_sweep 33 [l0, l1, l2, l3] (r.1.toList ++ [.ref b0]) r.2) ∧
  (∀ (l0 l1 l2 l3 : Option Value) (a0 : Int32) (q : Nat) (σ : dS), den mX6_sweep 33 [l0, l1, l2, l3] [.int a0, .ref q] σ = if disO σ q 2 = true then ((dcall mX3_dropUnread [.ref q, .int a0] σ).bind fun r => den mX6_sweep 36 [l0, l1, l2, l3] (r.1.toList ++ []) r.2) else none) ∧
  (∀ (l0 l2 l3 : Option Value) (x : Int32) (y : Int32) (st : List Value) (σ : dS), den mX6_sweep 36 [l0, some (.int y), l2, l3] (.int x :: st) σ = den mX6_sweep 37 [l0, some (.int y), some (.int x), l3] st σ) ∧
  (∀ (l0 l1 : Option Value) (x : Int32) (y : Int32) (st : List Value) (σ : dS), den mX6_sweep 37 [l0, l1, some (.int y), some (.int x)] st σ = den mX6_sweep 40 [l0, l1, some (.int y), some (.int (x + nI 1))] st σ) ∧
  (∀ (l0 l1 l2 l3 : Option Value) (st : List Value) (σ : dS), den mX6_sweep 40 [l0, l1, l2, l3] st σ = den mX6_sweep 12 [l0, l1, l2, l3] st σ) ∧
  (∀ (l0 l2 l3 : Option Value) (x : Int32) (st : List Value) (σ : dS), den mX6_sweep 43 [l0, some (.int x), l2, l3] st σ = den mX6_sweep 44 [l0, some (.int x), l2, l3] (.int x :: st) σ) ∧
  (∀ (l1 l2 l3 : Option Value) (x : Nat) (st : List Value) (σ : dS), den mX6_sweep 44 [some (.ref x), l1, l2, l3] st σ = den mX6_sweep 45 [some (.ref x), l1, l2, l3] (.ref x :: st) σ) ∧
  (∀ (l0 l1 l2 l3 : Option Value) (q : Nat) (st : List Value) (σ : dS), den mX6_sweep 45 [l0, l1, l2, l3] (.ref q :: st) σ = (dget σ q 5 1).bind fun v => den mX6_sweep 48 [l0, l1, l2, l3] (v :: st) σ) ∧
  (∀ (l0 l1 l2 l3 : Option Value) (q : Nat) (st : List Value) (σ : dS), den mX6_sweep 48 [l0, l1, l2, l3] (.ref q :: st) σ = (dget σ q 2 7).bind fun v => den mX6_sweep 51 [l0, l1, l2, l3] (v :: st) σ) ∧
  (∀ (l0 l1 l2 l3 : Option Value) (x y : Int32) (st : List Value) (σ : dS), den mX6_sweep 51 [l0, l1, l2, l3] (.int y :: .int x :: st) σ = den mX6_sweep 52 [l0, l1, l2, l3] (.int (x - y) :: st) σ) ∧
  (∀ (l0 l1 l2 l3 : Option Value) (v : Int32) (σ : dS), den mX6_sweep 52 [l0, l1, l2, l3] [.int v] σ = some (some (.int v), σ)) :=
  ⟨fun l1 l2 l3 x st σ => dn_aload_n eX6_sweep dX6_sweep_0 rfl,
  fun l0 l1 l2 l3 q st σ => dn_getfield (f := (5, 1, 260)) eX6_sweep dX6_sweep_1 (by decide +kernel),
  fun l0 l1 l2 l3 q st σ => dn_getfield (f := (2, 7, 112)) eX6_sweep dX6_sweep_4 (by decide +kernel),
  fun l1 l2 l3 x y st σ => dn_istore_n eX6_sweep dX6_sweep_7 rfl,
  fun l0 l1 l2 l3 st σ => dn_iconst eX6_sweep dX6_sweep_8 kc_iconst_1,
  fun l0 l2 l3 x y st σ => dn_istore_n eX6_sweep dX6_sweep_9 rfl,
  fun l0 l1 l2 l3 st σ => dn_iconst eX6_sweep dX6_sweep_10 kc_iconst_0,
  fun l0 l1 l3 x y st σ => dn_istore_n eX6_sweep dX6_sweep_11 rfl,
  fun l0 l1 l2 l3 st σ => dn_bipush eX6_sweep dX6_sweep_13 kc_bipush_24,
  fun l0 l1 l2 l3 x y st σ => dn_icmp_gt eX6_sweep dX6_sweep_15 (by decide),
  fun l0 l1 l3 x st σ => dn_iload_n eX6_sweep dX6_sweep_18 rfl,
  fun l0 l1 l2 l3 x st σ => dn_if_le eX6_sweep dX6_sweep_19 (by decide),
  fun l1 l2 l3 x st σ => dn_aload_n eX6_sweep dX6_sweep_22 rfl,
  fun l0 l1 l2 l3 q st σ => dn_getfield (f := (5, 1, 260)) eX6_sweep dX6_sweep_23 (by decide +kernel),
  fun l1 l2 l3 x st σ => dn_aload_n eX6_sweep dX6_sweep_26 rfl,
  fun l0 l1 l2 l3 q st σ => dn_getfield (f := (5, 1, 260)) eX6_sweep dX6_sweep_27 (by decide +kernel),
  fun l0 l1 l2 l3 a0 b0 σ => dn_callS (e := (1, 17, 632)) (as := [.ref a0]) (rest := [.ref b0]) eX6_sweep dX6_sweep_30 (by decide +kernel) (Or.inl rfl) (by decide +kernel) rfl (dcat_le rfl) (dlen_le rfl) rfl,
  fun l0 l1 l2 l3 a0 q σ => rX6_sweep_33 l0 l1 l2 l3 a0 q σ,
  fun l0 l2 l3 x y st σ => dn_istore_n eX6_sweep dX6_sweep_36 rfl,
  fun l0 l1 x y st σ => dn_iinc (v := nI 1) eX6_sweep dX6_sweep_37 rfl kc_iconst_1 rfl,
  fun l0 l1 l2 l3 st σ => dn_goto eX6_sweep dX6_sweep_40 (by decide),
  fun l0 l2 l3 x st σ => dn_iload_n eX6_sweep dX6_sweep_43 rfl,
  fun l1 l2 l3 x st σ => dn_aload_n eX6_sweep dX6_sweep_44 rfl,
  fun l0 l1 l2 l3 q st σ => dn_getfield (f := (5, 1, 260)) eX6_sweep dX6_sweep_45 (by decide +kernel),
  fun l0 l1 l2 l3 q st σ => dn_getfield (f := (2, 7, 112)) eX6_sweep dX6_sweep_48 (by decide +kernel),
  fun l0 l1 l2 l3 x y st σ => dn_isub eX6_sweep dX6_sweep_51,
  fun l0 l1 l2 l3 v σ => dn_ireturn eX6_sweep dX6_sweep_52 rfl⟩
theorem CX6_merge (a0 : Nat) (σ : dS) : dcall mX6_merge [.ref a0] σ = den mX6_merge 0 [some (.ref a0), none, none, none] [] σ := dcall_den (by decide) rfl
theorem rX6_merge_6 (l0 l1 l2 l3 : Option Value) (q : Nat) (σ : dS) : den mX6_merge 6 [l0, l1, l2, l3] [.ref q] σ = if disO σ q 2 = true then ((dcall mX3_firstToMerge [.ref q] σ).bind fun r => den mX6_merge 9 [l0, l1, l2, l3] (r.1.toList ++ []) r.2) else none := by
  by_cases h : disO σ q 2 = true
  · rw [if_pos h]; exact dn_callV (e := (0, 51, 666)) (as := []) (rest := []) eX6_merge dX6_merge_6 (by decide +kernel) rfl (by decide +kernel) rfl (dcat_le rfl) (dlen_le rfl) rfl h
  · rw [if_neg h]; exact den_noV (e := (0, 51, 666)) (as := []) (rest := []) eX6_merge dX6_merge_6 (by decide +kernel) rfl rfl rfl h
theorem hX6_merge_12 (l0 l1 l2 : Option Value) (x : Int32) (st : List Value) (σ : dS) : den mX6_merge 12 [l0, l1, l2, some (.int x)] st σ = den mX6_merge 13 [l0, l1, l2, some (.int x)] (.int x :: st) σ := dn_iload_n eX6_merge dX6_merge_12 rfl
theorem rX6_merge_29 (l0 l1 l2 l3 : Option Value) (a0 : Int32) (q : Nat) (σ : dS) : den mX6_merge 29 [l0, l1, l2, l3] [.int a0, .ref q] σ = if disO σ q 2 = true then ((dcall mX3_mergeAhead [.ref q, .int a0] σ).bind fun r => den mX6_merge 32 [l0, l1, l2, l3] (r.1.toList ++ []) r.2) else none := by
  by_cases h : disO σ q 2 = true
  · rw [if_pos h]; exact dn_callV (e := (0, 52, 682)) (as := [.int a0]) (rest := []) eX6_merge dX6_merge_29 (by decide +kernel) rfl (by decide +kernel) rfl (dcat_le rfl) (dlen_le rfl) rfl h
  · rw [if_neg h]; exact den_noV (e := (0, 52, 682)) (as := [.int a0]) (rest := []) eX6_merge dX6_merge_29 (by decide +kernel) rfl rfl rfl h
theorem rX6_merge_39 (l0 l1 l2 l3 : Option Value) (q : Nat) (σ : dS) : den mX6_merge 39 [l0, l1, l2, l3] [.ref q] σ = if disO σ q 2 = true then ((dcall mX3_firstToMerge [.ref q] σ).bind fun r => den mX6_merge 42 [l0, l1, l2, l3] (r.1.toList ++ []) r.2) else none := by
  by_cases h : disO σ q 2 = true
  · rw [if_pos h]; exact dn_callV (e := (0, 51, 666)) (as := []) (rest := []) eX6_merge dX6_merge_39 (by decide +kernel) rfl (by decide +kernel) rfl (dcat_le rfl) (dlen_le rfl) rfl h
  · rw [if_neg h]; exact den_noV (e := (0, 51, 666)) (as := []) (rest := []) eX6_merge dX6_merge_39 (by decide +kernel) rfl rfl rfl h
set_option maxRecDepth 20000 in
theorem SX6_merge : (∀ (l0 l1 l2 l3 : Option Value) (st : List Value) (σ : dS), den mX6_merge 0 [l0, l1, l2, l3] st σ = den mX6_merge 1 [l0, l1, l2, l3] (.int (nI 0) :: st) σ) ∧
  (∀ (l1 l2 l3 : Option Value) (x : Int32) (y : Nat) (st : List Value) (σ : dS), den mX6_merge 1 [some (.ref y), l1, l2, l3] (.int x :: st) σ = den mX6_merge 2 [some (.ref y), some (.int x), l2, l3] st σ) ∧
  (∀ (l1 l2 l3 : Option Value) (x : Nat) (st : List Value) (σ : dS), den mX6_merge 2 [some (.ref x), l1, l2, l3] st σ = den mX6_merge 3 [some (.ref x), l1, l2, l3] (.ref x :: st) σ) ∧
  (∀ (l0 l1 l2 l3 : Option Value) (q : Nat) (st : List Value) (σ : dS), den mX6_merge 3 [l0, l1, l2, l3] (.ref q :: st) σ = (dget σ q 5 1).bind fun v => den mX6_merge 6 [l0, l1, l2, l3] (v :: st) σ) ∧
  (∀ (l0 l1 l2 l3 : Option Value) (q : Nat) (σ : dS), den mX6_merge 6 [l0, l1, l2, l3] [.ref q] σ = if disO σ q 2 = true then ((dcall mX3_firstToMerge [.ref q] σ).bind fun r => den mX6_merge 9 [l0, l1, l2, l3] (r.1.toList ++ []) r.2) else none) ∧
  (∀ (l0 l2 l3 : Option Value) (x : Int32) (y : Int32) (st : List Value) (σ : dS), den mX6_merge 9 [l0, some (.int y), l2, l3] (.int x :: st) σ = den mX6_merge 10 [l0, some (.int y), some (.int x), l3] st σ) ∧
  (∀ (l0 l1 l2 l3 : Option Value) (st : List Value) (σ : dS), den mX6_merge 10 [l0, l1, l2, l3] st σ = den mX6_merge 11 [l0, l1, l2, l3] (.int (nI 0) :: st) σ) ∧
  (∀ (l0 l1 l3 : Option Value) (x : Int32) (y : Int32) (st : List Value) (σ : dS), den mX6_merge 11 [l0, l1, some (.int y), l3] (.int x :: st) σ = den mX6_merge 12 [l0, l1, some (.int y), some (.int x)] st σ) ∧
  (∀ (l0 l1 l2 l3 : Option Value) (st : List Value) (σ : dS), den mX6_merge 13 [l0, l1, l2, l3] st σ = den mX6_merge 15 [l0, l1, l2, l3] (.int (nI 24) :: st) σ) ∧
  (∀ (l0 l1 l2 l3 : Option Value) (x y : Int32) (st : List Value) (σ : dS), den mX6_merge 15 [l0, l1, l2, l3] (.int y :: .int x :: st) σ = if x < y then den mX6_merge 18 [l0, l1, l2, l3] st σ else den mX6_merge 49 [l0, l1, l2, l3] st σ) ∧
  (∀ (l0 l1 l3 : Option Value) (x : Int32) (st : List Value) (σ : dS), den mX6_merge 18 [l0, l1, some (.int x), l3] st σ = den mX6_merge 19 [l0, l1, some (.int x), l3] (.int x :: st) σ) ∧
  (∀ (l0 l1 l2 l3 : Option Value) (st : List Value) (σ : dS), den mX6_merge 19 [l0, l1, l2, l3] st σ = den mX6_merge 21 [l0, l1, l2, l3] (.int ((-4)) :: st) σ) ∧
  (∀ (l0 l1 l2 l3 : Option Value) (x y : Int32) (st : List Value) (σ : dS), den mX6_merge 21 [l0, l1, l2, l3] (.int y :: .int x :: st) σ = if x = y then den mX6_merge 49 [l0, l1, l2, l3] st σ else den mX6_merge 24 [l0, l1, l2, l3] st σ) ∧
  (∀ (l1 l2 l3 : Option Value) (x : Nat) (st : List Value) (σ : dS), den mX6_merge 24 [some (.ref x), l1, l2, l3] st σ = den mX6_merge 25 [some (.ref x), l1, l2, l3] (.ref x :: st) σ) ∧
  (∀ (l0 l1 l2 l3 : Option Value) (q : Nat) (st : List Value) (σ : dS), den mX6_merge 25 [l0, l1, l2, l3] (.ref q :: st) σ = (dget σ q 5 1).bind fun v => den mX6_merge 28 [l0, l1, l2, l3] (v :: st) σ) ∧
  (∀ (l0 l1 l3 : Option Value) (x : Int32) (st : List Value) (σ : dS), den mX6_merge 28 [l0, l1, some (.int x), l3] st σ = den mX6_merge 29 [l0, l1, some (.int x), l3] (.int x :: st) σ) ∧
  (∀ (l0 l1 l2 l3 : Option Value) (a0 : Int32) (q : Nat) (σ : dS), den mX6_merge 29 [l0, l1, l2, l3] [.int a0, .ref q] σ = if disO σ q 2 = true then ((dcall mX3_mergeAhead [.ref q, .int a0] σ).bind fun r => den mX6_merge 32 [l0, l1, l2, l3] (r.1.toList ++ []) r.2) else none) ∧
  (∀ (l2 l3 : Option Value) (x : Int32) (y : Nat) (st : List Value) (σ : dS), den mX6_merge 32 [some (.ref y), some (.int x), l2, l3] st σ = den mX6_merge 35 [some (.ref y), some (.int (x + nI 1)), l2, l3] st σ) ∧
  (∀ (l1 l2 l3 : Option Value) (x : Nat) (st : List Value) (σ : dS), den mX6_merge 35 [some (.ref x), l1, l2, l3] st σ = den mX6_merge 36 [some (.ref x), l1, l2, l3] (.ref x :: st) σ) ∧
  (∀ (l0 l1 l2 l3 : Option Value) (q : Nat) (st : List Value) (σ : dS), den mX6_merge 36 [l0, l1, l2, l3] (.ref q :: st) σ = (dget σ q 5 1).bind fun v => den mX6_merge 39 [l0, l1, l2, l3] (v :: st) σ) ∧
  (∀ (l0 l1 l2 l3 : Option Value) (q : Nat) (σ : dS), den mX6_merge 39 [l0, l1, l2, l3] [.ref q] σ = if disO σ q 2 = true then ((dcall mX3_firstToMerge [.ref q] σ).bind fun r => den mX6_merge 42 [l0, l1, l2, l3] (r.1.toList ++ []) r.2) else none) ∧
  (∀ (l0 l2 l3 : Option Value) (x : Int32) (y : Int32) (st : List Value) (σ : dS), den mX6_merge 42 [l0, some (.int y), l2, l3] (.int x :: st) σ = den mX6_merge 43 [l0, some (.int y), some (.int x), l3] st σ) ∧
  (∀ (l0 l1 : Option Value) (x : Int32) (y : Int32) (st : List Value) (σ : dS), den mX6_merge 43 [l0, l1, some (.int y), some (.int x)] st σ = den mX6_merge 46 [l0, l1, some (.int y), some (.int (x + nI 1))] st σ) ∧
  (∀ (l0 l1 l2 l3 : Option Value) (st : List Value) (σ : dS), den mX6_merge 46 [l0, l1, l2, l3] st σ = den mX6_merge 12 [l0, l1, l2, l3] st σ) ∧
  (∀ (l0 l2 l3 : Option Value) (x : Int32) (st : List Value) (σ : dS), den mX6_merge 49 [l0, some (.int x), l2, l3] st σ = den mX6_merge 50 [l0, some (.int x), l2, l3] (.int x :: st) σ) ∧
  (∀ (l0 l1 l2 l3 : Option Value) (v : Int32) (σ : dS), den mX6_merge 50 [l0, l1, l2, l3] [.int v] σ = some (some (.int v), σ)) :=
  ⟨fun l0 l1 l2 l3 st σ => dn_iconst eX6_merge dX6_merge_0 kc_iconst_0,
  fun l1 l2 l3 x y st σ => dn_istore_n eX6_merge dX6_merge_1 rfl,
  fun l1 l2 l3 x st σ => dn_aload_n eX6_merge dX6_merge_2 rfl,
  fun l0 l1 l2 l3 q st σ => dn_getfield (f := (5, 1, 260)) eX6_merge dX6_merge_3 (by decide +kernel),
  fun l0 l1 l2 l3 q σ => rX6_merge_6 l0 l1 l2 l3 q σ,
  fun l0 l2 l3 x y st σ => dn_istore_n eX6_merge dX6_merge_9 rfl,
  fun l0 l1 l2 l3 st σ => dn_iconst eX6_merge dX6_merge_10 kc_iconst_0,
  fun l0 l1 l3 x y st σ => dn_istore_n eX6_merge dX6_merge_11 rfl,
  fun l0 l1 l2 l3 st σ => dn_bipush eX6_merge dX6_merge_13 kc_bipush_24,
  fun l0 l1 l2 l3 x y st σ => dn_icmp_ge eX6_merge dX6_merge_15 (by decide),
  fun l0 l1 l3 x st σ => dn_iload_n eX6_merge dX6_merge_18 rfl,
  fun l0 l1 l2 l3 st σ => dn_bipush eX6_merge dX6_merge_19 kc_bipush_m4,
  fun l0 l1 l2 l3 x y st σ => dn_icmp_eq eX6_merge dX6_merge_21 (by decide),
  fun l1 l2 l3 x st σ => dn_aload_n eX6_merge dX6_merge_24 rfl,
  fun l0 l1 l2 l3 q st σ => dn_getfield (f := (5, 1, 260)) eX6_merge dX6_merge_25 (by decide +kernel),
  fun l0 l1 l3 x st σ => dn_iload_n eX6_merge dX6_merge_28 rfl,
  fun l0 l1 l2 l3 a0 q σ => rX6_merge_29 l0 l1 l2 l3 a0 q σ,
  fun l2 l3 x y st σ => dn_iinc (v := nI 1) eX6_merge dX6_merge_32 rfl kc_iconst_1 rfl,
  fun l1 l2 l3 x st σ => dn_aload_n eX6_merge dX6_merge_35 rfl,
  fun l0 l1 l2 l3 q st σ => dn_getfield (f := (5, 1, 260)) eX6_merge dX6_merge_36 (by decide +kernel),
  fun l0 l1 l2 l3 q σ => rX6_merge_39 l0 l1 l2 l3 q σ,
  fun l0 l2 l3 x y st σ => dn_istore_n eX6_merge dX6_merge_42 rfl,
  fun l0 l1 x y st σ => dn_iinc (v := nI 1) eX6_merge dX6_merge_43 rfl kc_iconst_1 rfl,
  fun l0 l1 l2 l3 st σ => dn_goto eX6_merge dX6_merge_46 (by decide),
  fun l0 l2 l3 x st σ => dn_iload_n eX6_merge dX6_merge_49 rfl,
  fun l0 l1 l2 l3 v σ => dn_ireturn eX6_merge dX6_merge_50 rfl⟩
theorem CX6_set (a0 : Nat) (a1 : Int32) (a2 : Int32) (a3 : Int32) (σ : dS) : dcall mX6_set [.ref a0, .int a1, .int a2, .int a3] σ = den mX6_set 0 [some (.ref a0), some (.int a1), some (.int a2), some (.int a3)] [] σ := dcall_den (by decide) rfl
theorem rX6_set_7 (l0 l1 l2 l3 : Option Value) (a0 : Int32) (a1 : Int32) (a2 : Int32) (q : Nat) (σ : dS) : den mX6_set 7 [l0, l1, l2, l3] [.int a2, .int a1, .int a0, .ref q] σ = if disO σ q 2 = true then ((dcall mX3_mayChange [.ref q, .int a0, .int a1, .int a2] σ).bind fun r => den mX6_set 10 [l0, l1, l2, l3] (r.1.toList ++ []) r.2) else none := by
  by_cases h : disO σ q 2 = true
  · rw [if_pos h]; exact dn_callV (e := (0, 43, 690)) (as := [.int a0, .int a1, .int a2]) (rest := []) eX6_set dX6_set_7 (by decide +kernel) rfl (by decide +kernel) rfl (dcat_le rfl) (dlen_le rfl) rfl h
  · rw [if_neg h]; exact den_noV (e := (0, 43, 690)) (as := [.int a0, .int a1, .int a2]) (rest := []) eX6_set dX6_set_7 (by decide +kernel) rfl rfl rfl h
theorem rX6_set_22 (l0 l1 l2 l3 : Option Value) (a0 : Int32) (a1 : Int32) (a2 : Int32) (q : Nat) (σ : dS) : den mX6_set 22 [l0, l1, l2, l3] [.int a2, .int a1, .int a0, .ref q] σ = if disO σ q 2 = true then ((dcall mX3_change [.ref q, .int a0, .int a1, .int a2] σ).bind fun r => den mX6_set 25 [l0, l1, l2, l3] (r.1.toList ++ []) r.2) else none := by
  by_cases h : disO σ q 2 = true
  · rw [if_pos h]; exact dn_callV (e := (0, 44, 700)) (as := [.int a0, .int a1, .int a2]) (rest := []) eX6_set dX6_set_22 (by decide +kernel) rfl (by decide +kernel) rfl (dcat_le rfl) (dlen_le rfl) rfl h
  · rw [if_neg h]; exact den_noV (e := (0, 44, 700)) (as := [.int a0, .int a1, .int a2]) (rest := []) eX6_set dX6_set_22 (by decide +kernel) rfl rfl rfl h
set_option maxRecDepth 20000 in
theorem SX6_set : (∀ (l1 l2 l3 : Option Value) (x : Nat) (st : List Value) (σ : dS), den mX6_set 0 [some (.ref x), l1, l2, l3] st σ = den mX6_set 1 [some (.ref x), l1, l2, l3] (.ref x :: st) σ) ∧
  (∀ (l0 l1 l2 l3 : Option Value) (q : Nat) (st : List Value) (σ : dS), den mX6_set 1 [l0, l1, l2, l3] (.ref q :: st) σ = (dget σ q 5 1).bind fun v => den mX6_set 4 [l0, l1, l2, l3] (v :: st) σ) ∧
  (∀ (l0 l2 l3 : Option Value) (x : Int32) (st : List Value) (σ : dS), den mX6_set 4 [l0, some (.int x), l2, l3] st σ = den mX6_set 5 [l0, some (.int x), l2, l3] (.int x :: st) σ) ∧
  (∀ (l0 l1 l3 : Option Value) (x : Int32) (st : List Value) (σ : dS), den mX6_set 5 [l0, l1, some (.int x), l3] st σ = den mX6_set 6 [l0, l1, some (.int x), l3] (.int x :: st) σ) ∧
  (∀ (l0 l1 l2 : Option Value) (x : Int32) (st : List Value) (σ : dS), den mX6_set 6 [l0, l1, l2, some (.int x)] st σ = den mX6_set 7 [l0, l1, l2, some (.int x)] (.int x :: st) σ) ∧
  (∀ (l0 l1 l2 l3 : Option Value) (a0 : Int32) (a1 : Int32) (a2 : Int32) (q : Nat) (σ : dS), den mX6_set 7 [l0, l1, l2, l3] [.int a2, .int a1, .int a0, .ref q] σ = if disO σ q 2 = true then ((dcall mX3_mayChange [.ref q, .int a0, .int a1, .int a2] σ).bind fun r => den mX6_set 10 [l0, l1, l2, l3] (r.1.toList ++ []) r.2) else none) ∧
  (∀ (l0 l1 l2 l3 : Option Value) (x : Int32) (st : List Value) (σ : dS), den mX6_set 10 [l0, l1, l2, l3] (.int x :: st) σ = if x = 0 then den mX6_set 13 [l0, l1, l2, l3] st σ else den mX6_set 15 [l0, l1, l2, l3] st σ) ∧
  (∀ (l0 l1 l2 l3 : Option Value) (st : List Value) (σ : dS), den mX6_set 13 [l0, l1, l2, l3] st σ = den mX6_set 14 [l0, l1, l2, l3] (.int ((-1)) :: st) σ) ∧
  (∀ (l0 l1 l2 l3 : Option Value) (v : Int32) (σ : dS), den mX6_set 14 [l0, l1, l2, l3] [.int v] σ = some (some (.int v), σ)) ∧
  (∀ (l1 l2 l3 : Option Value) (x : Nat) (st : List Value) (σ : dS), den mX6_set 15 [some (.ref x), l1, l2, l3] st σ = den mX6_set 16 [some (.ref x), l1, l2, l3] (.ref x :: st) σ) ∧
  (∀ (l0 l1 l2 l3 : Option Value) (q : Nat) (st : List Value) (σ : dS), den mX6_set 16 [l0, l1, l2, l3] (.ref q :: st) σ = (dget σ q 5 1).bind fun v => den mX6_set 19 [l0, l1, l2, l3] (v :: st) σ) ∧
  (∀ (l0 l2 l3 : Option Value) (x : Int32) (st : List Value) (σ : dS), den mX6_set 19 [l0, some (.int x), l2, l3] st σ = den mX6_set 20 [l0, some (.int x), l2, l3] (.int x :: st) σ) ∧
  (∀ (l0 l1 l3 : Option Value) (x : Int32) (st : List Value) (σ : dS), den mX6_set 20 [l0, l1, some (.int x), l3] st σ = den mX6_set 21 [l0, l1, some (.int x), l3] (.int x :: st) σ) ∧
  (∀ (l0 l1 l2 : Option Value) (x : Int32) (st : List Value) (σ : dS), den mX6_set 21 [l0, l1, l2, some (.int x)] st σ = den mX6_set 22 [l0, l1, l2, some (.int x)] (.int x :: st) σ) ∧
  (∀ (l0 l1 l2 l3 : Option Value) (a0 : Int32) (a1 : Int32) (a2 : Int32) (q : Nat) (σ : dS), den mX6_set 22 [l0, l1, l2, l3] [.int a2, .int a1, .int a0, .ref q] σ = if disO σ q 2 = true then ((dcall mX3_change [.ref q, .int a0, .int a1, .int a2] σ).bind fun r => den mX6_set 25 [l0, l1, l2, l3] (r.1.toList ++ []) r.2) else none) ∧
  (∀ (l0 l1 l2 l3 : Option Value) (v : Int32) (σ : dS), den mX6_set 25 [l0, l1, l2, l3] [.int v] σ = some (some (.int v), σ)) :=
  ⟨fun l1 l2 l3 x st σ => dn_aload_n eX6_set dX6_set_0 rfl,
  fun l0 l1 l2 l3 q st σ => dn_getfield (f := (5, 1, 260)) eX6_set dX6_set_1 (by decide +kernel),
  fun l0 l2 l3 x st σ => dn_iload_n eX6_set dX6_set_4 rfl,
  fun l0 l1 l3 x st σ => dn_iload_n eX6_set dX6_set_5 rfl,
  fun l0 l1 l2 x st σ => dn_iload_n eX6_set dX6_set_6 rfl,
  fun l0 l1 l2 l3 a0 a1 a2 q σ => rX6_set_7 l0 l1 l2 l3 a0 a1 a2 q σ,
  fun l0 l1 l2 l3 x st σ => dn_if_ne eX6_set dX6_set_10 (by decide),
  fun l0 l1 l2 l3 st σ => dn_iconst eX6_set dX6_set_13 kc_iconst_m1,
  fun l0 l1 l2 l3 v σ => dn_ireturn eX6_set dX6_set_14 rfl,
  fun l1 l2 l3 x st σ => dn_aload_n eX6_set dX6_set_15 rfl,
  fun l0 l1 l2 l3 q st σ => dn_getfield (f := (5, 1, 260)) eX6_set dX6_set_16 (by decide +kernel),
  fun l0 l2 l3 x st σ => dn_iload_n eX6_set dX6_set_19 rfl,
  fun l0 l1 l3 x st σ => dn_iload_n eX6_set dX6_set_20 rfl,
  fun l0 l1 l2 x st σ => dn_iload_n eX6_set dX6_set_21 rfl,
  fun l0 l1 l2 l3 a0 a1 a2 q σ => rX6_set_22 l0 l1 l2 l3 a0 a1 a2 q σ,
  fun l0 l1 l2 l3 v σ => dn_ireturn eX6_set dX6_set_25 rfl⟩
theorem CX6_turn (a0 : Nat) (a1 : Int32) (a2 : Int32) (σ : dS) : dcall mX6_turn [.ref a0, .int a1, .int a2] σ = den mX6_turn 0 [some (.ref a0), some (.int a1), some (.int a2), none] [] σ := dcall_den (by decide) rfl
theorem rX6_turn_5 (l0 l1 l2 l3 : Option Value) (a0 : Int32) (q : Nat) (σ : dS) : den mX6_turn 5 [l0, l1, l2, l3] [.int a0, .ref q] σ = if disO σ q 2 = true then ((dcall mX3_hasInstruction [.ref q, .int a0] σ).bind fun r => den mX6_turn 8 [l0, l1, l2, l3] (r.1.toList ++ []) r.2) else none := by
  by_cases h : disO σ q 2 = true
  · rw [if_pos h]; exact dn_callV (e := (0, 28, 494)) (as := [.int a0]) (rest := []) eX6_turn dX6_turn_5 (by decide +kernel) rfl (by decide +kernel) rfl (dcat_le rfl) (dlen_le rfl) rfl h
  · rw [if_neg h]; exact den_noV (e := (0, 28, 494)) (as := [.int a0]) (rest := []) eX6_turn dX6_turn_5 (by decide +kernel) rfl rfl rfl h
theorem rX6_turn_16 (l0 l1 l2 l3 : Option Value) (a0 : Int32) (q : Nat) (σ : dS) : den mX6_turn 16 [l0, l1, l2, l3] [.int a0, .ref q] σ = if disO σ q 2 = true then ((dcall mX3_isCompute [.ref q, .int a0] σ).bind fun r => den mX6_turn 19 [l0, l1, l2, l3] (r.1.toList ++ []) r.2) else none := by
  by_cases h : disO σ q 2 = true
  · rw [if_pos h]; exact dn_callV (e := (0, 32, 498)) (as := [.int a0]) (rest := []) eX6_turn dX6_turn_16 (by decide +kernel) rfl (by decide +kernel) rfl (dcat_le rfl) (dlen_le rfl) rfl h
  · rw [if_neg h]; exact den_noV (e := (0, 32, 498)) (as := [.int a0]) (rest := []) eX6_turn dX6_turn_16 (by decide +kernel) rfl rfl rfl h
set_option maxRecDepth 20000 in
theorem SX6_turn : (∀ (l1 l2 l3 : Option Value) (x : Nat) (st : List Value) (σ : dS), den mX6_turn 0 [some (.ref x), l1, l2, l3] st σ = den mX6_turn 1 [some (.ref x), l1, l2, l3] (.ref x :: st) σ) ∧
  (∀ (l0 l1 l2 l3 : Option Value) (q : Nat) (st : List Value) (σ : dS), den mX6_turn 1 [l0, l1, l2, l3] (.ref q :: st) σ = (dget σ q 5 1).bind fun v => den mX6_turn 4 [l0, l1, l2, l3] (v :: st) σ) ∧
  (∀ (l0 l2 l3 : Option Value) (x : Int32) (st : List Value) (σ : dS), den mX6_turn 4 [l0, some (.int x), l2, l3] st σ = den mX6_turn 5 [l0, some (.int x), l2, l3] (.int x :: st) σ) ∧
  (∀ (l0 l1 l2 l3 : Option Value) (a0 : Int32) (q : Nat) (σ : dS), den mX6_turn 5 [l0, l1, l2, l3] [.int a0, .ref q] σ = if disO σ q 2 = true then ((dcall mX3_hasInstruction [.ref q, .int a0] σ).bind fun r => den mX6_turn 8 [l0, l1, l2, l3] (r.1.toList ++ []) r.2) else none) ∧
  (∀ (l0 l1 l2 l3 : Option Value) (x : Int32) (st : List Value) (σ : dS), den mX6_turn 8 [l0, l1, l2, l3] (.int x :: st) σ = if x = 0 then den mX6_turn 32 [l0, l1, l2, l3] st σ else den mX6_turn 11 [l0, l1, l2, l3] st σ) ∧
  (∀ (l1 l2 l3 : Option Value) (x : Nat) (st : List Value) (σ : dS), den mX6_turn 11 [some (.ref x), l1, l2, l3] st σ = den mX6_turn 12 [some (.ref x), l1, l2, l3] (.ref x :: st) σ) ∧
  (∀ (l0 l1 l2 l3 : Option Value) (q : Nat) (st : List Value) (σ : dS), den mX6_turn 12 [l0, l1, l2, l3] (.ref q :: st) σ = (dget σ q 5 1).bind fun v => den mX6_turn 15 [l0, l1, l2, l3] (v :: st) σ) ∧
  (∀ (l0 l2 l3 : Option Value) (x : Int32) (st : List Value) (σ : dS), den mX6_turn 15 [l0, some (.int x), l2, l3] st σ = den mX6_turn 16 [l0, some (.int x), l2, l3] (.int x :: st) σ) ∧
  (∀ (l0 l1 l2 l3 : Option Value) (a0 : Int32) (q : Nat) (σ : dS), den mX6_turn 16 [l0, l1, l2, l3] [.int a0, .ref q] σ = if disO σ q 2 = true then ((dcall mX3_isCompute [.ref q, .int a0] σ).bind fun r => den mX6_turn 19 [l0, l1, l2, l3] (r.1.toList ++ []) r.2) else none) ∧
  (∀ (l0 l1 l2 l3 : Option Value) (x : Int32) (st : List Value) (σ : dS), den mX6_turn 19 [l0, l1, l2, l3] (.int x :: st) σ = if x = 0 then den mX6_turn 32 [l0, l1, l2, l3] st σ else den mX6_turn 22 [l0, l1, l2, l3] st σ) ∧
  (∀ (l0 l1 l3 : Option Value) (x : Int32) (st : List Value) (σ : dS), den mX6_turn 22 [l0, l1, some (.int x), l3] st σ = den mX6_turn 23 [l0, l1, some (.int x), l3] (.int x :: st) σ) ∧
  (∀ (l0 l1 l2 l3 : Option Value) (st : List Value) (σ : dS), den mX6_turn 23 [l0, l1, l2, l3] st σ = den mX6_turn 24 [l0, l1, l2, l3] (.int (nI 1) :: st) σ) ∧
  (∀ (l0 l1 l2 l3 : Option Value) (x y : Int32) (st : List Value) (σ : dS), den mX6_turn 24 [l0, l1, l2, l3] (.int y :: .int x :: st) σ = if x < y then den mX6_turn 32 [l0, l1, l2, l3] st σ else den mX6_turn 27 [l0, l1, l2, l3] st σ) ∧
  (∀ (l0 l1 l3 : Option Value) (x : Int32) (st : List Value) (σ : dS), den mX6_turn 27 [l0, l1, some (.int x), l3] st σ = den mX6_turn 28 [l0, l1, some (.int x), l3] (.int x :: st) σ) ∧
  (∀ (l0 l1 l2 l3 : Option Value) (st : List Value) (σ : dS), den mX6_turn 28 [l0, l1, l2, l3] st σ = den mX6_turn 29 [l0, l1, l2, l3] (.int (nI 4) :: st) σ) ∧
  (∀ (l0 l1 l2 l3 : Option Value) (x y : Int32) (st : List Value) (σ : dS), den mX6_turn 29 [l0, l1, l2, l3] (.int y :: .int x :: st) σ = if y < x then den mX6_turn 32 [l0, l1, l2, l3] st σ else den mX6_turn 34 [l0, l1, l2, l3] st σ) ∧
  (∀ (l0 l1 l2 l3 : Option Value) (st : List Value) (σ : dS), den mX6_turn 32 [l0, l1, l2, l3] st σ = den mX6_turn 33 [l0, l1, l2, l3] (.int ((-1)) :: st) σ) ∧
  (∀ (l0 l1 l2 l3 : Option Value) (v : Int32) (σ : dS), den mX6_turn 33 [l0, l1, l2, l3] [.int v] σ = some (some (.int v), σ)) ∧
  (∀ (l1 l2 l3 : Option Value) (x : Nat) (st : List Value) (σ : dS), den mX6_turn 34 [some (.ref x), l1, l2, l3] st σ = den mX6_turn 35 [some (.ref x), l1, l2, l3] (.ref x :: st) σ) ∧
  (∀ (l0 l1 l2 l3 : Option Value) (q : Nat) (st : List Value) (σ : dS), den mX6_turn 35 [l0, l1, l2, l3] (.ref q :: st) σ = (dget σ q 5 1).bind fun v => den mX6_turn 38 [l0, l1, l2, l3] (v :: st) σ) ∧
  (∀ (l0 l1 l2 l3 : Option Value) (q : Nat) (st : List Value) (σ : dS), den mX6_turn 38 [l0, l1, l2, l3] (.ref q :: st) σ = (dget σ q 2 0).bind fun v => den mX6_turn 41 [l0, l1, l2, l3] (v :: st) σ) ∧
  (∀ (l0 l2 l3 : Option Value) (x : Int32) (st : List Value) (σ : dS), den mX6_turn 41 [l0, some (.int x), l2, l3] st σ = den mX6_turn 42 [l0, some (.int x), l2, l3] (.int x :: st) σ) ∧
  (∀ (l0 l1 l2 l3 : Option Value) (q : Nat) (i : Int32) (st : List Value) (σ : dS), den mX6_turn 42 [l0, l1, l2, l3] (.int i :: .ref q :: st) σ = if q ≤ dN then (dald σ q 0 i).bind (fun v => den mX6_turn 43 [l0, l1, l2, l3] (.int v :: st) σ) else none) ∧
  (∀ (l0 l1 l3 : Option Value) (x : Int32) (y : Int32) (st : List Value) (σ : dS), den mX6_turn 43 [l0, l1, some (.int y), l3] (.int x :: st) σ = den mX6_turn 44 [l0, l1, some (.int y), some (.int x)] st σ) ∧
  (∀ (l1 l2 l3 : Option Value) (x : Nat) (st : List Value) (σ : dS), den mX6_turn 44 [some (.ref x), l1, l2, l3] st σ = den mX6_turn 45 [some (.ref x), l1, l2, l3] (.ref x :: st) σ) ∧
  (∀ (l0 l1 l2 l3 : Option Value) (q : Nat) (st : List Value) (σ : dS), den mX6_turn 45 [l0, l1, l2, l3] (.ref q :: st) σ = (dget σ q 5 1).bind fun v => den mX6_turn 48 [l0, l1, l2, l3] (v :: st) σ) ∧
  (∀ (l0 l1 l2 l3 : Option Value) (q : Nat) (st : List Value) (σ : dS), den mX6_turn 48 [l0, l1, l2, l3] (.ref q :: st) σ = (dget σ q 2 0).bind fun v => den mX6_turn 51 [l0, l1, l2, l3] (v :: st) σ) ∧
  (∀ (l0 l2 l3 : Option Value) (x : Int32) (st : List Value) (σ : dS), den mX6_turn 51 [l0, some (.int x), l2, l3] st σ = den mX6_turn 52 [l0, some (.int x), l2, l3] (.int x :: st) σ) ∧
  (∀ (l0 l1 l3 : Option Value) (x : Int32) (st : List Value) (σ : dS), den mX6_turn 52 [l0, l1, some (.int x), l3] st σ = den mX6_turn 53 [l0, l1, some (.int x), l3] (.int x :: st) σ) ∧
  (∀ (l0 l1 l2 l3 : Option Value) (q : Nat) (i x : Int32) (st : List Value) (σ : dS), den mX6_turn 53 [l0, l1, l2, l3] (.int x :: .int i :: .ref q :: st) σ = (dast σ q 0 i x).bind fun τ => den mX6_turn 54 [l0, l1, l2, l3] st τ) ∧
  (∀ (l0 l1 l2 : Option Value) (x : Int32) (st : List Value) (σ : dS), den mX6_turn 54 [l0, l1, l2, some (.int x)] st σ = den mX6_turn 55 [l0, l1, l2, some (.int x)] (.int x :: st) σ) ∧
  (∀ (l0 l1 l2 l3 : Option Value) (v : Int32) (σ : dS), den mX6_turn 55 [l0, l1, l2, l3] [.int v] σ = some (some (.int v), σ)) :=
  ⟨fun l1 l2 l3 x st σ => dn_aload_n eX6_turn dX6_turn_0 rfl,
  fun l0 l1 l2 l3 q st σ => dn_getfield (f := (5, 1, 260)) eX6_turn dX6_turn_1 (by decide +kernel),
  fun l0 l2 l3 x st σ => dn_iload_n eX6_turn dX6_turn_4 rfl,
  fun l0 l1 l2 l3 a0 q σ => rX6_turn_5 l0 l1 l2 l3 a0 q σ,
  fun l0 l1 l2 l3 x st σ => dn_if_eq eX6_turn dX6_turn_8 (by decide),
  fun l1 l2 l3 x st σ => dn_aload_n eX6_turn dX6_turn_11 rfl,
  fun l0 l1 l2 l3 q st σ => dn_getfield (f := (5, 1, 260)) eX6_turn dX6_turn_12 (by decide +kernel),
  fun l0 l2 l3 x st σ => dn_iload_n eX6_turn dX6_turn_15 rfl,
  fun l0 l1 l2 l3 a0 q σ => rX6_turn_16 l0 l1 l2 l3 a0 q σ,
  fun l0 l1 l2 l3 x st σ => dn_if_eq eX6_turn dX6_turn_19 (by decide),
  fun l0 l1 l3 x st σ => dn_iload_n eX6_turn dX6_turn_22 rfl,
  fun l0 l1 l2 l3 st σ => dn_iconst eX6_turn dX6_turn_23 kc_iconst_1,
  fun l0 l1 l2 l3 x y st σ => dn_icmp_lt eX6_turn dX6_turn_24 (by decide),
  fun l0 l1 l3 x st σ => dn_iload_n eX6_turn dX6_turn_27 rfl,
  fun l0 l1 l2 l3 st σ => dn_iconst eX6_turn dX6_turn_28 kc_iconst_4,
  fun l0 l1 l2 l3 x y st σ => dn_icmp_le eX6_turn dX6_turn_29 (by decide),
  fun l0 l1 l2 l3 st σ => dn_iconst eX6_turn dX6_turn_32 kc_iconst_m1,
  fun l0 l1 l2 l3 v σ => dn_ireturn eX6_turn dX6_turn_33 rfl,
  fun l1 l2 l3 x st σ => dn_aload_n eX6_turn dX6_turn_34 rfl,
  fun l0 l1 l2 l3 q st σ => dn_getfield (f := (5, 1, 260)) eX6_turn dX6_turn_35 (by decide +kernel),
  fun l0 l1 l2 l3 q st σ => dn_getfield (f := (2, 0, 88)) eX6_turn dX6_turn_38 (by decide +kernel),
  fun l0 l2 l3 x st σ => dn_iload_n eX6_turn dX6_turn_41 rfl,
  fun l0 l1 l2 l3 q i st σ => dn_iaload eX6_turn dX6_turn_42,
  fun l0 l1 l3 x y st σ => dn_istore_n eX6_turn dX6_turn_43 rfl,
  fun l1 l2 l3 x st σ => dn_aload_n eX6_turn dX6_turn_44 rfl,
  fun l0 l1 l2 l3 q st σ => dn_getfield (f := (5, 1, 260)) eX6_turn dX6_turn_45 (by decide +kernel),
  fun l0 l1 l2 l3 q st σ => dn_getfield (f := (2, 0, 88)) eX6_turn dX6_turn_48 (by decide +kernel),
  fun l0 l2 l3 x st σ => dn_iload_n eX6_turn dX6_turn_51 rfl,
  fun l0 l1 l3 x st σ => dn_iload_n eX6_turn dX6_turn_52 rfl,
  fun l0 l1 l2 l3 q i x st σ => dn_iastore eX6_turn dX6_turn_53,
  fun l0 l1 l2 x st σ => dn_iload_n eX6_turn dX6_turn_54 rfl,
  fun l0 l1 l2 l3 v σ => dn_ireturn eX6_turn dX6_turn_55 rfl⟩
theorem CX6_keep (a0 : Nat) (a1 : Int32) (σ : dS) : dcall mX6_keep [.ref a0, .int a1] σ = den mX6_keep 0 [some (.ref a0), some (.int a1), none] [] σ := dcall_den (by decide) rfl
theorem rX6_keep_31 (l0 l1 l2 : Option Value) (a0 : Nat) (q : Nat) (σ : dS) : den mX6_keep 31 [l0, l1, l2] [.ref a0, .ref q] σ = if disO σ q 2 = true then ((dcall mX3_becomeLike [.ref q, .ref a0] σ).bind fun r => den mX6_keep 34 [l0, l1, l2] (r.1.toList ++ []) r.2) else none := by
  by_cases h : disO σ q 2 = true
  · rw [if_pos h]; exact dn_callV (e := (0, 25, 419)) (as := [.ref a0]) (rest := []) eX6_keep dX6_keep_31 (by decide +kernel) rfl (by decide +kernel) rfl (dcat_le rfl) (dlen_le rfl) rfl h
  · rw [if_neg h]; exact den_noV (e := (0, 25, 419)) (as := [.ref a0]) (rest := []) eX6_keep dX6_keep_31 (by decide +kernel) rfl rfl rfl h
set_option maxRecDepth 20000 in
theorem SX6_keep : (∀ (l0 l2 : Option Value) (x : Int32) (st : List Value) (σ : dS), den mX6_keep 0 [l0, some (.int x), l2] st σ = den mX6_keep 1 [l0, some (.int x), l2] (.int x :: st) σ) ∧
  (∀ (l0 l1 l2 : Option Value) (x : Int32) (st : List Value) (σ : dS), den mX6_keep 1 [l0, l1, l2] (.int x :: st) σ = if x < 0 then den mX6_keep 9 [l0, l1, l2] st σ else den mX6_keep 4 [l0, l1, l2] st σ) ∧
  (∀ (l0 l2 : Option Value) (x : Int32) (st : List Value) (σ : dS), den mX6_keep 4 [l0, some (.int x), l2] st σ = den mX6_keep 5 [l0, some (.int x), l2] (.int x :: st) σ) ∧
  (∀ (l0 l1 l2 : Option Value) (st : List Value) (σ : dS), den mX6_keep 5 [l0, l1, l2] st σ = den mX6_keep 6 [l0, l1, l2] (.int (nI 2) :: st) σ) ∧
  (∀ (l0 l1 l2 : Option Value) (x y : Int32) (st : List Value) (σ : dS), den mX6_keep 6 [l0, l1, l2] (.int y :: .int x :: st) σ = if x < y then den mX6_keep 11 [l0, l1, l2] st σ else den mX6_keep 9 [l0, l1, l2] st σ) ∧
  (∀ (l0 l1 l2 : Option Value) (st : List Value) (σ : dS), den mX6_keep 9 [l0, l1, l2] st σ = den mX6_keep 10 [l0, l1, l2] (.int ((-1)) :: st) σ) ∧
  (∀ (l0 l1 l2 : Option Value) (v : Int32) (σ : dS), den mX6_keep 10 [l0, l1, l2] [.int v] σ = some (some (.int v), σ)) ∧
  (∀ (l1 l2 : Option Value) (x : Nat) (st : List Value) (σ : dS), den mX6_keep 11 [some (.ref x), l1, l2] st σ = den mX6_keep 12 [some (.ref x), l1, l2] (.ref x :: st) σ) ∧
  (∀ (l0 l1 l2 : Option Value) (q : Nat) (st : List Value) (σ : dS), den mX6_keep 12 [l0, l1, l2] (.ref q :: st) σ = (dget σ q 5 3).bind fun v => den mX6_keep 15 [l0, l1, l2] (v :: st) σ) ∧
  (∀ (l0 l2 : Option Value) (x : Int32) (st : List Value) (σ : dS), den mX6_keep 15 [l0, some (.int x), l2] st σ = den mX6_keep 16 [l0, some (.int x), l2] (.int x :: st) σ) ∧
  (∀ (l0 l1 l2 : Option Value) (q : Nat) (i : Int32) (st : List Value) (σ : dS), den mX6_keep 16 [l0, l1, l2] (.int i :: .ref q :: st) σ = (dbld σ q i).bind fun v => den mX6_keep 17 [l0, l1, l2] (.int v :: st) σ) ∧
  (∀ (l0 l1 l2 : Option Value) (a0 : Int32) (σ : dS), den mX6_keep 17 [l0, l1, l2] [.int a0] σ = (dcall mX6_oneIf [.int a0] σ).bind fun r => den mX6_keep 20 [l0, l1, l2] (r.1.toList ++ []) r.2) ∧
  (∀ (l0 l2 : Option Value) (x : Int32) (y : Int32) (st : List Value) (σ : dS), den mX6_keep 20 [l0, some (.int y), l2] (.int x :: st) σ = den mX6_keep 21 [l0, some (.int y), some (.int x)] st σ) ∧
  (∀ (l1 l2 : Option Value) (x : Nat) (st : List Value) (σ : dS), den mX6_keep 21 [some (.ref x), l1, l2] st σ = den mX6_keep 22 [some (.ref x), l1, l2] (.ref x :: st) σ) ∧
  (∀ (l0 l1 l2 : Option Value) (q : Nat) (st : List Value) (σ : dS), den mX6_keep 22 [l0, l1, l2] (.ref q :: st) σ = (dget σ q 5 2).bind fun v => den mX6_keep 25 [l0, l1, l2] (v :: st) σ) ∧
  (∀ (l0 l2 : Option Value) (x : Int32) (st : List Value) (σ : dS), den mX6_keep 25 [l0, some (.int x), l2] st σ = den mX6_keep 26 [l0, some (.int x), l2] (.int x :: st) σ) ∧
  (∀ (l0 l1 l2 : Option Value) (q : Nat) (i : Int32) (st : List Value) (σ : dS), den mX6_keep 26 [l0, l1, l2] (.int i :: .ref q :: st) σ = (drld σ q i).bind fun v => den mX6_keep 27 [l0, l1, l2] (v :: st) σ) ∧
  (∀ (l1 l2 : Option Value) (x : Nat) (st : List Value) (σ : dS), den mX6_keep 27 [some (.ref x), l1, l2] st σ = den mX6_keep 28 [some (.ref x), l1, l2] (.ref x :: st) σ) ∧
  (∀ (l0 l1 l2 : Option Value) (q : Nat) (st : List Value) (σ : dS), den mX6_keep 28 [l0, l1, l2] (.ref q :: st) σ = (dget σ q 5 1).bind fun v => den mX6_keep 31 [l0, l1, l2] (v :: st) σ) ∧
  (∀ (l0 l1 l2 : Option Value) (a0 : Nat) (q : Nat) (σ : dS), den mX6_keep 31 [l0, l1, l2] [.ref a0, .ref q] σ = if disO σ q 2 = true then ((dcall mX3_becomeLike [.ref q, .ref a0] σ).bind fun r => den mX6_keep 34 [l0, l1, l2] (r.1.toList ++ []) r.2) else none) ∧
  (∀ (l1 l2 : Option Value) (x : Nat) (st : List Value) (σ : dS), den mX6_keep 34 [some (.ref x), l1, l2] st σ = den mX6_keep 35 [some (.ref x), l1, l2] (.ref x :: st) σ) ∧
  (∀ (l0 l1 l2 : Option Value) (q : Nat) (st : List Value) (σ : dS), den mX6_keep 35 [l0, l1, l2] (.ref q :: st) σ = (dget σ q 5 3).bind fun v => den mX6_keep 38 [l0, l1, l2] (v :: st) σ) ∧
  (∀ (l0 l2 : Option Value) (x : Int32) (st : List Value) (σ : dS), den mX6_keep 38 [l0, some (.int x), l2] st σ = den mX6_keep 39 [l0, some (.int x), l2] (.int x :: st) σ) ∧
  (∀ (l0 l1 l2 : Option Value) (st : List Value) (σ : dS), den mX6_keep 39 [l0, l1, l2] st σ = den mX6_keep 40 [l0, l1, l2] (.int (nI 1) :: st) σ) ∧
  (∀ (l0 l1 l2 : Option Value) (q : Nat) (i x : Int32) (st : List Value) (σ : dS), den mX6_keep 40 [l0, l1, l2] (.int x :: .int i :: .ref q :: st) σ = (dbst σ q i x).bind fun τ => den mX6_keep 41 [l0, l1, l2] st τ) ∧
  (∀ (l0 l1 : Option Value) (x : Int32) (st : List Value) (σ : dS), den mX6_keep 41 [l0, l1, some (.int x)] st σ = den mX6_keep 42 [l0, l1, some (.int x)] (.int x :: st) σ) ∧
  (∀ (l0 l1 l2 : Option Value) (v : Int32) (σ : dS), den mX6_keep 42 [l0, l1, l2] [.int v] σ = some (some (.int v), σ)) :=
  ⟨fun l0 l2 x st σ => dn_iload_n eX6_keep dX6_keep_0 rfl,
  fun l0 l1 l2 x st σ => dn_if_lt eX6_keep dX6_keep_1 (by decide),
  fun l0 l2 x st σ => dn_iload_n eX6_keep dX6_keep_4 rfl,
  fun l0 l1 l2 st σ => dn_iconst eX6_keep dX6_keep_5 kc_iconst_2,
  fun l0 l1 l2 x y st σ => dn_icmp_lt eX6_keep dX6_keep_6 (by decide),
  fun l0 l1 l2 st σ => dn_iconst eX6_keep dX6_keep_9 kc_iconst_m1,
  fun l0 l1 l2 v σ => dn_ireturn eX6_keep dX6_keep_10 rfl,
  fun l1 l2 x st σ => dn_aload_n eX6_keep dX6_keep_11 rfl,
  fun l0 l1 l2 q st σ => dn_getfield (f := (5, 3, 262)) eX6_keep dX6_keep_12 (by decide +kernel),
  fun l0 l2 x st σ => dn_iload_n eX6_keep dX6_keep_15 rfl,
  fun l0 l1 l2 q i st σ => dn_baload eX6_keep dX6_keep_16,
  fun l0 l1 l2 a0 σ => dn_callS (e := (1, 9, 530)) (as := [.int a0]) (rest := []) eX6_keep dX6_keep_17 (by decide +kernel) (Or.inl rfl) (by decide +kernel) rfl (dcat_le rfl) (dlen_le rfl) rfl,
  fun l0 l2 x y st σ => dn_istore_n eX6_keep dX6_keep_20 rfl,
  fun l1 l2 x st σ => dn_aload_n eX6_keep dX6_keep_21 rfl,
  fun l0 l1 l2 q st σ => dn_getfield (f := (5, 2, 261)) eX6_keep dX6_keep_22 (by decide +kernel),
  fun l0 l2 x st σ => dn_iload_n eX6_keep dX6_keep_25 rfl,
  fun l0 l1 l2 q i st σ => dn_aaload eX6_keep dX6_keep_26,
  fun l1 l2 x st σ => dn_aload_n eX6_keep dX6_keep_27 rfl,
  fun l0 l1 l2 q st σ => dn_getfield (f := (5, 1, 260)) eX6_keep dX6_keep_28 (by decide +kernel),
  fun l0 l1 l2 a0 q σ => rX6_keep_31 l0 l1 l2 a0 q σ,
  fun l1 l2 x st σ => dn_aload_n eX6_keep dX6_keep_34 rfl,
  fun l0 l1 l2 q st σ => dn_getfield (f := (5, 3, 262)) eX6_keep dX6_keep_35 (by decide +kernel),
  fun l0 l2 x st σ => dn_iload_n eX6_keep dX6_keep_38 rfl,
  fun l0 l1 l2 st σ => dn_iconst eX6_keep dX6_keep_39 kc_iconst_1,
  fun l0 l1 l2 q i x st σ => dn_bastore eX6_keep dX6_keep_40,
  fun l0 l1 x st σ => dn_iload_n eX6_keep dX6_keep_41 rfl,
  fun l0 l1 l2 v σ => dn_ireturn eX6_keep dX6_keep_42 rfl⟩
theorem CX6_back (a0 : Nat) (a1 : Int32) (σ : dS) : dcall mX6_back [.ref a0, .int a1] σ = den mX6_back 0 [some (.ref a0), some (.int a1)] [] σ := dcall_den (by decide) rfl
theorem rX6_back_33 (l0 l1 : Option Value) (a0 : Nat) (q : Nat) (σ : dS) : den mX6_back 33 [l0, l1] [.ref a0, .ref q] σ = if disO σ q 2 = true then ((dcall mX3_becomeLike [.ref q, .ref a0] σ).bind fun r => den mX6_back 36 [l0, l1] (r.1.toList ++ []) r.2) else none := by
  by_cases h : disO σ q 2 = true
  · rw [if_pos h]; exact dn_callV (e := (0, 25, 419)) (as := [.ref a0]) (rest := []) eX6_back dX6_back_33 (by decide +kernel) rfl (by decide +kernel) rfl (dcat_le rfl) (dlen_le rfl) rfl h
  · rw [if_neg h]; exact den_noV (e := (0, 25, 419)) (as := [.ref a0]) (rest := []) eX6_back dX6_back_33 (by decide +kernel) rfl rfl rfl h
set_option maxRecDepth 20000 in
theorem SX6_back : (∀ (l0 : Option Value) (x : Int32) (st : List Value) (σ : dS), den mX6_back 0 [l0, some (.int x)] st σ = den mX6_back 1 [l0, some (.int x)] (.int x :: st) σ) ∧
  (∀ (l0 l1 : Option Value) (x : Int32) (st : List Value) (σ : dS), den mX6_back 1 [l0, l1] (.int x :: st) σ = if x < 0 then den mX6_back 9 [l0, l1] st σ else den mX6_back 4 [l0, l1] st σ) ∧
  (∀ (l0 : Option Value) (x : Int32) (st : List Value) (σ : dS), den mX6_back 4 [l0, some (.int x)] st σ = den mX6_back 5 [l0, some (.int x)] (.int x :: st) σ) ∧
  (∀ (l0 l1 : Option Value) (st : List Value) (σ : dS), den mX6_back 5 [l0, l1] st σ = den mX6_back 6 [l0, l1] (.int (nI 2) :: st) σ) ∧
  (∀ (l0 l1 : Option Value) (x y : Int32) (st : List Value) (σ : dS), den mX6_back 6 [l0, l1] (.int y :: .int x :: st) σ = if x < y then den mX6_back 11 [l0, l1] st σ else den mX6_back 9 [l0, l1] st σ) ∧
  (∀ (l0 l1 : Option Value) (st : List Value) (σ : dS), den mX6_back 9 [l0, l1] st σ = den mX6_back 10 [l0, l1] (.int ((-1)) :: st) σ) ∧
  (∀ (l0 l1 : Option Value) (v : Int32) (σ : dS), den mX6_back 10 [l0, l1] [.int v] σ = some (some (.int v), σ)) ∧
  (∀ (l1 : Option Value) (x : Nat) (st : List Value) (σ : dS), den mX6_back 11 [some (.ref x), l1] st σ = den mX6_back 12 [some (.ref x), l1] (.ref x :: st) σ) ∧
  (∀ (l0 l1 : Option Value) (q : Nat) (st : List Value) (σ : dS), den mX6_back 12 [l0, l1] (.ref q :: st) σ = (dget σ q 5 3).bind fun v => den mX6_back 15 [l0, l1] (v :: st) σ) ∧
  (∀ (l0 : Option Value) (x : Int32) (st : List Value) (σ : dS), den mX6_back 15 [l0, some (.int x)] st σ = den mX6_back 16 [l0, some (.int x)] (.int x :: st) σ) ∧
  (∀ (l0 l1 : Option Value) (q : Nat) (i : Int32) (st : List Value) (σ : dS), den mX6_back 16 [l0, l1] (.int i :: .ref q :: st) σ = (dbld σ q i).bind fun v => den mX6_back 17 [l0, l1] (.int v :: st) σ) ∧
  (∀ (l0 l1 : Option Value) (x : Int32) (st : List Value) (σ : dS), den mX6_back 17 [l0, l1] (.int x :: st) σ = if x = 0 then den mX6_back 20 [l0, l1] st σ else den mX6_back 23 [l0, l1] st σ) ∧
  (∀ (l0 l1 : Option Value) (st : List Value) (σ : dS), den mX6_back 20 [l0, l1] st σ = den mX6_back 22 [l0, l1] (.int ((-2)) :: st) σ) ∧
  (∀ (l0 l1 : Option Value) (v : Int32) (σ : dS), den mX6_back 22 [l0, l1] [.int v] σ = some (some (.int v), σ)) ∧
  (∀ (l1 : Option Value) (x : Nat) (st : List Value) (σ : dS), den mX6_back 23 [some (.ref x), l1] st σ = den mX6_back 24 [some (.ref x), l1] (.ref x :: st) σ) ∧
  (∀ (l0 l1 : Option Value) (q : Nat) (st : List Value) (σ : dS), den mX6_back 24 [l0, l1] (.ref q :: st) σ = (dget σ q 5 1).bind fun v => den mX6_back 27 [l0, l1] (v :: st) σ) ∧
  (∀ (l1 : Option Value) (x : Nat) (st : List Value) (σ : dS), den mX6_back 27 [some (.ref x), l1] st σ = den mX6_back 28 [some (.ref x), l1] (.ref x :: st) σ) ∧
  (∀ (l0 l1 : Option Value) (q : Nat) (st : List Value) (σ : dS), den mX6_back 28 [l0, l1] (.ref q :: st) σ = (dget σ q 5 2).bind fun v => den mX6_back 31 [l0, l1] (v :: st) σ) ∧
  (∀ (l0 : Option Value) (x : Int32) (st : List Value) (σ : dS), den mX6_back 31 [l0, some (.int x)] st σ = den mX6_back 32 [l0, some (.int x)] (.int x :: st) σ) ∧
  (∀ (l0 l1 : Option Value) (q : Nat) (i : Int32) (st : List Value) (σ : dS), den mX6_back 32 [l0, l1] (.int i :: .ref q :: st) σ = (drld σ q i).bind fun v => den mX6_back 33 [l0, l1] (v :: st) σ) ∧
  (∀ (l0 l1 : Option Value) (a0 : Nat) (q : Nat) (σ : dS), den mX6_back 33 [l0, l1] [.ref a0, .ref q] σ = if disO σ q 2 = true then ((dcall mX3_becomeLike [.ref q, .ref a0] σ).bind fun r => den mX6_back 36 [l0, l1] (r.1.toList ++ []) r.2) else none) ∧
  (∀ (l1 : Option Value) (x : Nat) (st : List Value) (σ : dS), den mX6_back 36 [some (.ref x), l1] st σ = den mX6_back 37 [some (.ref x), l1] (.ref x :: st) σ) ∧
  (∀ (l0 l1 : Option Value) (st : List Value) (σ : dS), den mX6_back 37 [l0, l1] st σ = den mX6_back 38 [l0, l1] (.int (nI 0) :: st) σ) ∧
  (∀ (l0 l1 : Option Value) (x : Int32) (q : Nat) (st : List Value) (σ : dS), den mX6_back 38 [l0, l1] (.int x :: .ref q :: st) σ = if x = 0 ∨ x = 1 then ((dput σ q 5 8 (.int x)).bind fun τ => den mX6_back 41 [l0, l1] st τ) else none) ∧
  (∀ (l1 : Option Value) (x : Nat) (st : List Value) (σ : dS), den mX6_back 41 [some (.ref x), l1] st σ = den mX6_back 42 [some (.ref x), l1] (.ref x :: st) σ) ∧
  (∀ (l0 l1 : Option Value) (q : Nat) (st : List Value) (σ : dS), den mX6_back 42 [l0, l1] (.ref q :: st) σ = (dget σ q 5 1).bind fun v => den mX6_back 45 [l0, l1] (v :: st) σ) ∧
  (∀ (l0 l1 : Option Value) (q : Nat) (st : List Value) (σ : dS), den mX6_back 45 [l0, l1] (.ref q :: st) σ = (dget σ q 2 7).bind fun v => den mX6_back 48 [l0, l1] (v :: st) σ) ∧
  (∀ (l0 l1 : Option Value) (v : Int32) (σ : dS), den mX6_back 48 [l0, l1] [.int v] σ = some (some (.int v), σ)) :=
  ⟨fun l0 x st σ => dn_iload_n eX6_back dX6_back_0 rfl,
  fun l0 l1 x st σ => dn_if_lt eX6_back dX6_back_1 (by decide),
  fun l0 x st σ => dn_iload_n eX6_back dX6_back_4 rfl,
  fun l0 l1 st σ => dn_iconst eX6_back dX6_back_5 kc_iconst_2,
  fun l0 l1 x y st σ => dn_icmp_lt eX6_back dX6_back_6 (by decide),
  fun l0 l1 st σ => dn_iconst eX6_back dX6_back_9 kc_iconst_m1,
  fun l0 l1 v σ => dn_ireturn eX6_back dX6_back_10 rfl,
  fun l1 x st σ => dn_aload_n eX6_back dX6_back_11 rfl,
  fun l0 l1 q st σ => dn_getfield (f := (5, 3, 262)) eX6_back dX6_back_12 (by decide +kernel),
  fun l0 x st σ => dn_iload_n eX6_back dX6_back_15 rfl,
  fun l0 l1 q i st σ => dn_baload eX6_back dX6_back_16,
  fun l0 l1 x st σ => dn_if_ne eX6_back dX6_back_17 (by decide),
  fun l0 l1 st σ => dn_bipush eX6_back dX6_back_20 kc_bipush_m2,
  fun l0 l1 v σ => dn_ireturn eX6_back dX6_back_22 rfl,
  fun l1 x st σ => dn_aload_n eX6_back dX6_back_23 rfl,
  fun l0 l1 q st σ => dn_getfield (f := (5, 1, 260)) eX6_back dX6_back_24 (by decide +kernel),
  fun l1 x st σ => dn_aload_n eX6_back dX6_back_27 rfl,
  fun l0 l1 q st σ => dn_getfield (f := (5, 2, 261)) eX6_back dX6_back_28 (by decide +kernel),
  fun l0 x st σ => dn_iload_n eX6_back dX6_back_31 rfl,
  fun l0 l1 q i st σ => dn_aaload eX6_back dX6_back_32,
  fun l0 l1 a0 q σ => rX6_back_33 l0 l1 a0 q σ,
  fun l1 x st σ => dn_aload_n eX6_back dX6_back_36 rfl,
  fun l0 l1 st σ => dn_iconst eX6_back dX6_back_37 kc_iconst_0,
  fun l0 l1 x q st σ => dn_putfieldZ (f := (5, 8, 267)) eX6_back dX6_back_38 (by decide +kernel) (by decide +kernel),
  fun l1 x st σ => dn_aload_n eX6_back dX6_back_41 rfl,
  fun l0 l1 q st σ => dn_getfield (f := (5, 1, 260)) eX6_back dX6_back_42 (by decide +kernel),
  fun l0 l1 q st σ => dn_getfield (f := (2, 7, 112)) eX6_back dX6_back_45 (by decide +kernel),
  fun l0 l1 v σ => dn_ireturn eX6_back dX6_back_48 rfl⟩
theorem CX6_sheet (a0 : Nat) (a1 : Int32) (a2 : Int32) (a3 : Int32) (σ : dS) : dcall mX6_sheet [.ref a0, .int a1, .int a2, .int a3] σ = den mX6_sheet 0 [some (.ref a0), some (.int a1), some (.int a2), some (.int a3)] [] σ := dcall_den (by decide) rfl
theorem rX6_sheet_41 (l0 l1 l2 l3 : Option Value) (a0 : Int32) (a1 : Int32) (q : Nat) (σ : dS) : den mX6_sheet 41 [l0, l1, l2, l3] [.int a1, .int a0, .ref q] σ = if disO σ q 3 = true then ((dcall mX4_renew [.ref q, .int a0, .int a1] σ).bind fun r => den mX6_sheet 44 [l0, l1, l2, l3] (r.1.toList ++ []) r.2) else none := by
  by_cases h : disO σ q 3 = true
  · rw [if_pos h]; exact dn_callV (e := (0, 53, 720)) (as := [.int a0, .int a1]) (rest := []) eX6_sheet dX6_sheet_41 (by decide +kernel) rfl (by decide +kernel) rfl (dcat_le rfl) (dlen_le rfl) rfl h
  · rw [if_neg h]; exact den_noV (e := (0, 53, 720)) (as := [.int a0, .int a1]) (rest := []) eX6_sheet dX6_sheet_41 (by decide +kernel) rfl rfl rfl h
set_option maxRecDepth 20000 in
theorem SX6_sheet : (∀ (l0 l2 l3 : Option Value) (x : Int32) (st : List Value) (σ : dS), den mX6_sheet 0 [l0, some (.int x), l2, l3] st σ = den mX6_sheet 1 [l0, some (.int x), l2, l3] (.int x :: st) σ) ∧
  (∀ (l0 l1 l2 l3 : Option Value) (x : Int32) (st : List Value) (σ : dS), den mX6_sheet 1 [l0, l1, l2, l3] (.int x :: st) σ = if x < 0 then den mX6_sheet 24 [l0, l1, l2, l3] st σ else den mX6_sheet 4 [l0, l1, l2, l3] st σ) ∧
  (∀ (l0 l2 l3 : Option Value) (x : Int32) (st : List Value) (σ : dS), den mX6_sheet 4 [l0, some (.int x), l2, l3] st σ = den mX6_sheet 5 [l0, some (.int x), l2, l3] (.int x :: st) σ) ∧
  (∀ (l0 l1 l2 l3 : Option Value) (st : List Value) (σ : dS), den mX6_sheet 5 [l0, l1, l2, l3] st σ = den mX6_sheet 6 [l0, l1, l2, l3] (.int (nI 4) :: st) σ) ∧
  (∀ (l0 l1 l2 l3 : Option Value) (x y : Int32) (st : List Value) (σ : dS), den mX6_sheet 6 [l0, l1, l2, l3] (.int y :: .int x :: st) σ = if x < y then den mX6_sheet 9 [l0, l1, l2, l3] st σ else den mX6_sheet 24 [l0, l1, l2, l3] st σ) ∧
  (∀ (l0 l1 l3 : Option Value) (x : Int32) (st : List Value) (σ : dS), den mX6_sheet 9 [l0, l1, some (.int x), l3] st σ = den mX6_sheet 10 [l0, l1, some (.int x), l3] (.int x :: st) σ) ∧
  (∀ (l0 l1 l2 l3 : Option Value) (x : Int32) (st : List Value) (σ : dS), den mX6_sheet 10 [l0, l1, l2, l3] (.int x :: st) σ = if x < 0 then den mX6_sheet 24 [l0, l1, l2, l3] st σ else den mX6_sheet 13 [l0, l1, l2, l3] st σ) ∧
  (∀ (l0 l1 l3 : Option Value) (x : Int32) (st : List Value) (σ : dS), den mX6_sheet 13 [l0, l1, some (.int x), l3] st σ = den mX6_sheet 14 [l0, l1, some (.int x), l3] (.int x :: st) σ) ∧
  (∀ (l0 l1 l2 l3 : Option Value) (st : List Value) (σ : dS), den mX6_sheet 14 [l0, l1, l2, l3] st σ = den mX6_sheet 15 [l0, l1, l2, l3] (.int (nI 2) :: st) σ) ∧
  (∀ (l0 l1 l2 l3 : Option Value) (x y : Int32) (st : List Value) (σ : dS), den mX6_sheet 15 [l0, l1, l2, l3] (.int y :: .int x :: st) σ = if y < x then den mX6_sheet 24 [l0, l1, l2, l3] st σ else den mX6_sheet 18 [l0, l1, l2, l3] st σ) ∧
  (∀ (l0 l1 l2 : Option Value) (x : Int32) (st : List Value) (σ : dS), den mX6_sheet 18 [l0, l1, l2, some (.int x)] st σ = den mX6_sheet 19 [l0, l1, l2, some (.int x)] (.int x :: st) σ) ∧
  (∀ (l0 l1 l2 l3 : Option Value) (st : List Value) (σ : dS), den mX6_sheet 19 [l0, l1, l2, l3] st σ = den mX6_sheet 21 [l0, l1, l2, l3] (.int (nI 40) :: st) σ) ∧
  (∀ (l0 l1 l2 l3 : Option Value) (x y : Int32) (st : List Value) (σ : dS), den mX6_sheet 21 [l0, l1, l2, l3] (.int y :: .int x :: st) σ = if y < x then den mX6_sheet 24 [l0, l1, l2, l3] st σ else den mX6_sheet 26 [l0, l1, l2, l3] st σ) ∧
  (∀ (l0 l1 l2 l3 : Option Value) (st : List Value) (σ : dS), den mX6_sheet 24 [l0, l1, l2, l3] st σ = den mX6_sheet 25 [l0, l1, l2, l3] (.int ((-1)) :: st) σ) ∧
  (∀ (l0 l1 l2 l3 : Option Value) (v : Int32) (σ : dS), den mX6_sheet 25 [l0, l1, l2, l3] [.int v] σ = some (some (.int v), σ)) ∧
  (∀ (l0 l1 l2 : Option Value) (x : Int32) (st : List Value) (σ : dS), den mX6_sheet 26 [l0, l1, l2, some (.int x)] st σ = den mX6_sheet 27 [l0, l1, l2, some (.int x)] (.int x :: st) σ) ∧
  (∀ (l0 l1 l2 l3 : Option Value) (x : Int32) (st : List Value) (σ : dS), den mX6_sheet 27 [l0, l1, l2, l3] (.int x :: st) σ = if x < 0 then den mX6_sheet 30 [l0, l1, l2, l3] st σ else den mX6_sheet 33 [l0, l1, l2, l3] st σ) ∧
  (∀ (l0 l1 l2 l3 : Option Value) (st : List Value) (σ : dS), den mX6_sheet 30 [l0, l1, l2, l3] st σ = den mX6_sheet 32 [l0, l1, l2, l3] (.int ((-14)) :: st) σ) ∧
  (∀ (l0 l1 l2 l3 : Option Value) (v : Int32) (σ : dS), den mX6_sheet 32 [l0, l1, l2, l3] [.int v] σ = some (some (.int v), σ)) ∧
  (∀ (l1 l2 l3 : Option Value) (x : Nat) (st : List Value) (σ : dS), den mX6_sheet 33 [some (.ref x), l1, l2, l3] st σ = den mX6_sheet 34 [some (.ref x), l1, l2, l3] (.ref x :: st) σ) ∧
  (∀ (l0 l1 l2 l3 : Option Value) (q : Nat) (st : List Value) (σ : dS), den mX6_sheet 34 [l0, l1, l2, l3] (.ref q :: st) σ = (dget σ q 5 7).bind fun v => den mX6_sheet 37 [l0, l1, l2, l3] (v :: st) σ) ∧
  (∀ (l0 l2 l3 : Option Value) (x : Int32) (st : List Value) (σ : dS), den mX6_sheet 37 [l0, some (.int x), l2, l3] st σ = den mX6_sheet 38 [l0, some (.int x), l2, l3] (.int x :: st) σ) ∧
  (∀ (l0 l1 l2 l3 : Option Value) (q : Nat) (i : Int32) (st : List Value) (σ : dS), den mX6_sheet 38 [l0, l1, l2, l3] (.int i :: .ref q :: st) σ = (drld σ q i).bind fun v => den mX6_sheet 39 [l0, l1, l2, l3] (v :: st) σ) ∧
  (∀ (l0 l1 l3 : Option Value) (x : Int32) (st : List Value) (σ : dS), den mX6_sheet 39 [l0, l1, some (.int x), l3] st σ = den mX6_sheet 40 [l0, l1, some (.int x), l3] (.int x :: st) σ) ∧
  (∀ (l0 l1 l2 : Option Value) (x : Int32) (st : List Value) (σ : dS), den mX6_sheet 40 [l0, l1, l2, some (.int x)] st σ = den mX6_sheet 41 [l0, l1, l2, some (.int x)] (.int x :: st) σ) ∧
  (∀ (l0 l1 l2 l3 : Option Value) (a0 : Int32) (a1 : Int32) (q : Nat) (σ : dS), den mX6_sheet 41 [l0, l1, l2, l3] [.int a1, .int a0, .ref q] σ = if disO σ q 3 = true then ((dcall mX4_renew [.ref q, .int a0, .int a1] σ).bind fun r => den mX6_sheet 44 [l0, l1, l2, l3] (r.1.toList ++ []) r.2) else none) ∧
  (∀ (l0 l1 l2 l3 : Option Value) (st : List Value) (σ : dS), den mX6_sheet 44 [l0, l1, l2, l3] st σ = den mX6_sheet 45 [l0, l1, l2, l3] (.int (nI 1) :: st) σ) ∧
  (∀ (l0 l1 l2 l3 : Option Value) (v : Int32) (σ : dS), den mX6_sheet 45 [l0, l1, l2, l3] [.int v] σ = some (some (.int v), σ)) :=
  ⟨fun l0 l2 l3 x st σ => dn_iload_n eX6_sheet dX6_sheet_0 rfl,
  fun l0 l1 l2 l3 x st σ => dn_if_lt eX6_sheet dX6_sheet_1 (by decide),
  fun l0 l2 l3 x st σ => dn_iload_n eX6_sheet dX6_sheet_4 rfl,
  fun l0 l1 l2 l3 st σ => dn_iconst eX6_sheet dX6_sheet_5 kc_iconst_4,
  fun l0 l1 l2 l3 x y st σ => dn_icmp_ge eX6_sheet dX6_sheet_6 (by decide),
  fun l0 l1 l3 x st σ => dn_iload_n eX6_sheet dX6_sheet_9 rfl,
  fun l0 l1 l2 l3 x st σ => dn_if_lt eX6_sheet dX6_sheet_10 (by decide),
  fun l0 l1 l3 x st σ => dn_iload_n eX6_sheet dX6_sheet_13 rfl,
  fun l0 l1 l2 l3 st σ => dn_iconst eX6_sheet dX6_sheet_14 kc_iconst_2,
  fun l0 l1 l2 l3 x y st σ => dn_icmp_gt eX6_sheet dX6_sheet_15 (by decide),
  fun l0 l1 l2 x st σ => dn_iload_n eX6_sheet dX6_sheet_18 rfl,
  fun l0 l1 l2 l3 st σ => dn_bipush eX6_sheet dX6_sheet_19 kc_bipush_40,
  fun l0 l1 l2 l3 x y st σ => dn_icmp_le eX6_sheet dX6_sheet_21 (by decide),
  fun l0 l1 l2 l3 st σ => dn_iconst eX6_sheet dX6_sheet_24 kc_iconst_m1,
  fun l0 l1 l2 l3 v σ => dn_ireturn eX6_sheet dX6_sheet_25 rfl,
  fun l0 l1 l2 x st σ => dn_iload_n eX6_sheet dX6_sheet_26 rfl,
  fun l0 l1 l2 l3 x st σ => dn_if_ge eX6_sheet dX6_sheet_27 (by decide),
  fun l0 l1 l2 l3 st σ => dn_bipush eX6_sheet dX6_sheet_30 kc_bipush_m14,
  fun l0 l1 l2 l3 v σ => dn_ireturn eX6_sheet dX6_sheet_32 rfl,
  fun l1 l2 l3 x st σ => dn_aload_n eX6_sheet dX6_sheet_33 rfl,
  fun l0 l1 l2 l3 q st σ => dn_getfield (f := (5, 7, 266)) eX6_sheet dX6_sheet_34 (by decide +kernel),
  fun l0 l2 l3 x st σ => dn_iload_n eX6_sheet dX6_sheet_37 rfl,
  fun l0 l1 l2 l3 q i st σ => dn_aaload eX6_sheet dX6_sheet_38,
  fun l0 l1 l3 x st σ => dn_iload_n eX6_sheet dX6_sheet_39 rfl,
  fun l0 l1 l2 x st σ => dn_iload_n eX6_sheet dX6_sheet_40 rfl,
  fun l0 l1 l2 l3 a0 a1 q σ => rX6_sheet_41 l0 l1 l2 l3 a0 a1 q σ,
  fun l0 l1 l2 l3 st σ => dn_iconst eX6_sheet dX6_sheet_44 kc_iconst_1,
  fun l0 l1 l2 l3 v σ => dn_ireturn eX6_sheet dX6_sheet_45 rfl⟩
theorem CX6_lay (a0 : Nat) (a1 : Int32) (a2 : Int32) (a3 : Int32) (σ : dS) : dcall mX6_lay [.ref a0, .int a1, .int a2, .int a3] σ = den mX6_lay 0 [some (.ref a0), some (.int a1), some (.int a2), some (.int a3), none] [] σ := dcall_den (by decide) rfl
theorem rX6_lay_52 (l0 l1 l2 l3 l4 : Option Value) (a0 : Int32) (a1 : Int32) (q : Nat) (σ : dS) : den mX6_lay 52 [l0, l1, l2, l3, l4] [.int a1, .int a0, .ref q] σ = if disO σ q 3 = true then ((dcall mX4_write [.ref q, .int a0, .int a1] σ).bind fun r => den mX6_lay 55 [l0, l1, l2, l3, l4] (r.1.toList ++ []) r.2) else none := by
  by_cases h : disO σ q 3 = true
  · rw [if_pos h]; exact dn_callV (e := (0, 54, 729)) (as := [.int a0, .int a1]) (rest := []) eX6_lay dX6_lay_52 (by decide +kernel) rfl (by decide +kernel) rfl (dcat_le rfl) (dlen_le rfl) rfl h
  · rw [if_neg h]; exact den_noV (e := (0, 54, 729)) (as := [.int a0, .int a1]) (rest := []) eX6_lay dX6_lay_52 (by decide +kernel) rfl rfl rfl h
set_option maxRecDepth 20000 in
theorem SX6_lay : (∀ (l0 l2 l3 l4 : Option Value) (x : Int32) (st : List Value) (σ : dS), den mX6_lay 0 [l0, some (.int x), l2, l3, l4] st σ = den mX6_lay 1 [l0, some (.int x), l2, l3, l4] (.int x :: st) σ) ∧
  (∀ (l0 l1 l2 l3 l4 : Option Value) (x : Int32) (st : List Value) (σ : dS), den mX6_lay 1 [l0, l1, l2, l3, l4] (.int x :: st) σ = if x < 0 then den mX6_lay 9 [l0, l1, l2, l3, l4] st σ else den mX6_lay 4 [l0, l1, l2, l3, l4] st σ) ∧
  (∀ (l0 l2 l3 l4 : Option Value) (x : Int32) (st : List Value) (σ : dS), den mX6_lay 4 [l0, some (.int x), l2, l3, l4] st σ = den mX6_lay 5 [l0, some (.int x), l2, l3, l4] (.int x :: st) σ) ∧
  (∀ (l0 l1 l2 l3 l4 : Option Value) (st : List Value) (σ : dS), den mX6_lay 5 [l0, l1, l2, l3, l4] st σ = den mX6_lay 6 [l0, l1, l2, l3, l4] (.int (nI 4) :: st) σ) ∧
  (∀ (l0 l1 l2 l3 l4 : Option Value) (x y : Int32) (st : List Value) (σ : dS), den mX6_lay 6 [l0, l1, l2, l3, l4] (.int y :: .int x :: st) σ = if x < y then den mX6_lay 11 [l0, l1, l2, l3, l4] st σ else den mX6_lay 9 [l0, l1, l2, l3, l4] st σ) ∧
  (∀ (l0 l1 l2 l3 l4 : Option Value) (st : List Value) (σ : dS), den mX6_lay 9 [l0, l1, l2, l3, l4] st σ = den mX6_lay 10 [l0, l1, l2, l3, l4] (.int ((-1)) :: st) σ) ∧
  (∀ (l0 l1 l2 l3 l4 : Option Value) (v : Int32) (σ : dS), den mX6_lay 10 [l0, l1, l2, l3, l4] [.int v] σ = some (some (.int v), σ)) ∧
  (∀ (l1 l2 l3 l4 : Option Value) (x : Nat) (st : List Value) (σ : dS), den mX6_lay 11 [some (.ref x), l1, l2, l3, l4] st σ = den mX6_lay 12 [some (.ref x), l1, l2, l3, l4] (.ref x :: st) σ) ∧
  (∀ (l0 l1 l2 l3 l4 : Option Value) (q : Nat) (st : List Value) (σ : dS), den mX6_lay 12 [l0, l1, l2, l3, l4] (.ref q :: st) σ = (dget σ q 5 7).bind fun v => den mX6_lay 15 [l0, l1, l2, l3, l4] (v :: st) σ) ∧
  (∀ (l0 l2 l3 l4 : Option Value) (x : Int32) (st : List Value) (σ : dS), den mX6_lay 15 [l0, some (.int x), l2, l3, l4] st σ = den mX6_lay 16 [l0, some (.int x), l2, l3, l4] (.int x :: st) σ) ∧
  (∀ (l0 l1 l2 l3 l4 : Option Value) (q : Nat) (i : Int32) (st : List Value) (σ : dS), den mX6_lay 16 [l0, l1, l2, l3, l4] (.int i :: .ref q :: st) σ = (drld σ q i).bind fun v => den mX6_lay 17 [l0, l1, l2, l3, l4] (v :: st) σ) ∧
  (∀ (l0 l1 l2 l4 : Option Value) (x : Nat) (y : Int32) (st : List Value) (σ : dS), den mX6_lay 17 [l0, l1, l2, some (.int y), l4] (.ref x :: st) σ = den mX6_lay 19 [l0, l1, l2, some (.int y), some (.ref x)] st σ) ∧
  (∀ (l0 l1 l2 l3 : Option Value) (x : Nat) (st : List Value) (σ : dS), den mX6_lay 19 [l0, l1, l2, l3, some (.ref x)] st σ = den mX6_lay 21 [l0, l1, l2, l3, some (.ref x)] (.ref x :: st) σ) ∧
  (∀ (l0 l1 l2 l3 l4 : Option Value) (q : Nat) (st : List Value) (σ : dS), den mX6_lay 21 [l0, l1, l2, l3, l4] (.ref q :: st) σ = (dget σ q 3 2).bind fun v => den mX6_lay 24 [l0, l1, l2, l3, l4] (v :: st) σ) ∧
  (∀ (l0 l1 l2 l3 l4 : Option Value) (st : List Value) (σ : dS), den mX6_lay 24 [l0, l1, l2, l3, l4] st σ = den mX6_lay 26 [l0, l1, l2, l3, l4] (.int ((-4)) :: st) σ) ∧
  (∀ (l0 l1 l2 l3 l4 : Option Value) (x y : Int32) (st : List Value) (σ : dS), den mX6_lay 26 [l0, l1, l2, l3, l4] (.int y :: .int x :: st) σ = if x = y then den mX6_lay 29 [l0, l1, l2, l3, l4] st σ else den mX6_lay 32 [l0, l1, l2, l3, l4] st σ) ∧
  (∀ (l0 l1 l2 l3 l4 : Option Value) (st : List Value) (σ : dS), den mX6_lay 29 [l0, l1, l2, l3, l4] st σ = den mX6_lay 31 [l0, l1, l2, l3, l4] (.int ((-11)) :: st) σ) ∧
  (∀ (l0 l1 l2 l3 l4 : Option Value) (v : Int32) (σ : dS), den mX6_lay 31 [l0, l1, l2, l3, l4] [.int v] σ = some (some (.int v), σ)) ∧
  (∀ (l0 l1 l3 l4 : Option Value) (x : Int32) (st : List Value) (σ : dS), den mX6_lay 32 [l0, l1, some (.int x), l3, l4] st σ = den mX6_lay 33 [l0, l1, some (.int x), l3, l4] (.int x :: st) σ) ∧
  (∀ (l0 l1 l2 l3 l4 : Option Value) (x : Int32) (st : List Value) (σ : dS), den mX6_lay 33 [l0, l1, l2, l3, l4] (.int x :: st) σ = if x < 0 then den mX6_lay 45 [l0, l1, l2, l3, l4] st σ else den mX6_lay 36 [l0, l1, l2, l3, l4] st σ) ∧
  (∀ (l0 l1 l3 l4 : Option Value) (x : Int32) (st : List Value) (σ : dS), den mX6_lay 36 [l0, l1, some (.int x), l3, l4] st σ = den mX6_lay 37 [l0, l1, some (.int x), l3, l4] (.int x :: st) σ) ∧
  (∀ (l0 l1 l2 l3 : Option Value) (x : Nat) (st : List Value) (σ : dS), den mX6_lay 37 [l0, l1, l2, l3, some (.ref x)] st σ = den mX6_lay 39 [l0, l1, l2, l3, some (.ref x)] (.ref x :: st) σ) ∧
  (∀ (l0 l1 l2 l3 l4 : Option Value) (q : Nat) (st : List Value) (σ : dS), den mX6_lay 39 [l0, l1, l2, l3, l4] (.ref q :: st) σ = (dget σ q 3 2).bind fun v => den mX6_lay 42 [l0, l1, l2, l3, l4] (v :: st) σ) ∧
  (∀ (l0 l1 l2 l3 l4 : Option Value) (x y : Int32) (st : List Value) (σ : dS), den mX6_lay 42 [l0, l1, l2, l3, l4] (.int y :: .int x :: st) σ = if x < y then den mX6_lay 48 [l0, l1, l2, l3, l4] st σ else den mX6_lay 45 [l0, l1, l2, l3, l4] st σ) ∧
  (∀ (l0 l1 l2 l3 l4 : Option Value) (st : List Value) (σ : dS), den mX6_lay 45 [l0, l1, l2, l3, l4] st σ = den mX6_lay 47 [l0, l1, l2, l3, l4] (.int ((-12)) :: st) σ) ∧
  (∀ (l0 l1 l2 l3 l4 : Option Value) (v : Int32) (σ : dS), den mX6_lay 47 [l0, l1, l2, l3, l4] [.int v] σ = some (some (.int v), σ)) ∧
  (∀ (l0 l1 l2 l3 : Option Value) (x : Nat) (st : List Value) (σ : dS), den mX6_lay 48 [l0, l1, l2, l3, some (.ref x)] st σ = den mX6_lay 50 [l0, l1, l2, l3, some (.ref x)] (.ref x :: st) σ) ∧
  (∀ (l0 l1 l3 l4 : Option Value) (x : Int32) (st : List Value) (σ : dS), den mX6_lay 50 [l0, l1, some (.int x), l3, l4] st σ = den mX6_lay 51 [l0, l1, some (.int x), l3, l4] (.int x :: st) σ) ∧
  (∀ (l0 l1 l2 l4 : Option Value) (x : Int32) (st : List Value) (σ : dS), den mX6_lay 51 [l0, l1, l2, some (.int x), l4] st σ = den mX6_lay 52 [l0, l1, l2, some (.int x), l4] (.int x :: st) σ) ∧
  (∀ (l0 l1 l2 l3 l4 : Option Value) (a0 : Int32) (a1 : Int32) (q : Nat) (σ : dS), den mX6_lay 52 [l0, l1, l2, l3, l4] [.int a1, .int a0, .ref q] σ = if disO σ q 3 = true then ((dcall mX4_write [.ref q, .int a0, .int a1] σ).bind fun r => den mX6_lay 55 [l0, l1, l2, l3, l4] (r.1.toList ++ []) r.2) else none) ∧
  (∀ (l0 l1 l2 l3 l4 : Option Value) (st : List Value) (σ : dS), den mX6_lay 55 [l0, l1, l2, l3, l4] st σ = den mX6_lay 56 [l0, l1, l2, l3, l4] (.int (nI 1) :: st) σ) ∧
  (∀ (l0 l1 l2 l3 l4 : Option Value) (v : Int32) (σ : dS), den mX6_lay 56 [l0, l1, l2, l3, l4] [.int v] σ = some (some (.int v), σ)) :=
  ⟨fun l0 l2 l3 l4 x st σ => dn_iload_n eX6_lay dX6_lay_0 rfl,
  fun l0 l1 l2 l3 l4 x st σ => dn_if_lt eX6_lay dX6_lay_1 (by decide),
  fun l0 l2 l3 l4 x st σ => dn_iload_n eX6_lay dX6_lay_4 rfl,
  fun l0 l1 l2 l3 l4 st σ => dn_iconst eX6_lay dX6_lay_5 kc_iconst_4,
  fun l0 l1 l2 l3 l4 x y st σ => dn_icmp_lt eX6_lay dX6_lay_6 (by decide),
  fun l0 l1 l2 l3 l4 st σ => dn_iconst eX6_lay dX6_lay_9 kc_iconst_m1,
  fun l0 l1 l2 l3 l4 v σ => dn_ireturn eX6_lay dX6_lay_10 rfl,
  fun l1 l2 l3 l4 x st σ => dn_aload_n eX6_lay dX6_lay_11 rfl,
  fun l0 l1 l2 l3 l4 q st σ => dn_getfield (f := (5, 7, 266)) eX6_lay dX6_lay_12 (by decide +kernel),
  fun l0 l2 l3 l4 x st σ => dn_iload_n eX6_lay dX6_lay_15 rfl,
  fun l0 l1 l2 l3 l4 q i st σ => dn_aaload eX6_lay dX6_lay_16,
  fun l0 l1 l2 l4 x y st σ => dn_astore eX6_lay dX6_lay_17 rfl,
  fun l0 l1 l2 l3 x st σ => dn_aload eX6_lay dX6_lay_19 rfl,
  fun l0 l1 l2 l3 l4 q st σ => dn_getfield (f := (3, 2, 251)) eX6_lay dX6_lay_21 (by decide +kernel),
  fun l0 l1 l2 l3 l4 st σ => dn_bipush eX6_lay dX6_lay_24 kc_bipush_m4,
  fun l0 l1 l2 l3 l4 x y st σ => dn_icmp_ne eX6_lay dX6_lay_26 (by decide),
  fun l0 l1 l2 l3 l4 st σ => dn_bipush eX6_lay dX6_lay_29 kc_bipush_m11,
  fun l0 l1 l2 l3 l4 v σ => dn_ireturn eX6_lay dX6_lay_31 rfl,
  fun l0 l1 l3 l4 x st σ => dn_iload_n eX6_lay dX6_lay_32 rfl,
  fun l0 l1 l2 l3 l4 x st σ => dn_if_lt eX6_lay dX6_lay_33 (by decide),
  fun l0 l1 l3 l4 x st σ => dn_iload_n eX6_lay dX6_lay_36 rfl,
  fun l0 l1 l2 l3 x st σ => dn_aload eX6_lay dX6_lay_37 rfl,
  fun l0 l1 l2 l3 l4 q st σ => dn_getfield (f := (3, 2, 251)) eX6_lay dX6_lay_39 (by decide +kernel),
  fun l0 l1 l2 l3 l4 x y st σ => dn_icmp_lt eX6_lay dX6_lay_42 (by decide),
  fun l0 l1 l2 l3 l4 st σ => dn_bipush eX6_lay dX6_lay_45 kc_bipush_m12,
  fun l0 l1 l2 l3 l4 v σ => dn_ireturn eX6_lay dX6_lay_47 rfl,
  fun l0 l1 l2 l3 x st σ => dn_aload eX6_lay dX6_lay_48 rfl,
  fun l0 l1 l3 l4 x st σ => dn_iload_n eX6_lay dX6_lay_50 rfl,
  fun l0 l1 l2 l4 x st σ => dn_iload_n eX6_lay dX6_lay_51 rfl,
  fun l0 l1 l2 l3 l4 a0 a1 q σ => rX6_lay_52 l0 l1 l2 l3 l4 a0 a1 q σ,
  fun l0 l1 l2 l3 l4 st σ => dn_iconst eX6_lay dX6_lay_55 kc_iconst_1,
  fun l0 l1 l2 l3 l4 v σ => dn_ireturn eX6_lay dX6_lay_56 rfl⟩
theorem CX6_read (a0 : Nat) (a1 : Int32) (a2 : Int32) (a3 : Int32) (a4 : Int32) (σ : dS) : dcall mX6_read [.ref a0, .int a1, .int a2, .int a3, .int a4] σ = den mX6_read 0 [some (.ref a0), some (.int a1), some (.int a2), some (.int a3), some (.int a4), none, none, none, none, none] [] σ := dcall_den (by decide) rfl
theorem hX6_read_49 (l0 l1 l2 l3 l4 l5 l6 l7 l9 : Option Value) (x : Int32) (st : List Value) (σ : dS) : den mX6_read 49 [l0, l1, l2, l3, l4, l5, l6, l7, some (.int x), l9] st σ = den mX6_read 51 [l0, l1, l2, l3, l4, l5, l6, l7, some (.int x), l9] (.int x :: st) σ := dn_iload eX6_read dX6_read_49 rfl
theorem rX6_read_74 (l0 l1 l2 l3 l4 l5 l6 l7 l8 l9 : Option Value) (a0 : Int32) (a1 : Int32) (q : Nat) (σ : dS) : den mX6_read 74 [l0, l1, l2, l3, l4, l5, l6, l7, l8, l9] [.int a1, .int a0, .ref q] σ = if disO σ q 3 = true then ((dcall mX4_faultOfChange [.ref q, .int a0, .int a1] σ).bind fun r => den mX6_read 77 [l0, l1, l2, l3, l4, l5, l6, l7, l8, l9] (r.1.toList ++ []) r.2) else none := by
  by_cases h : disO σ q 3 = true
  · rw [if_pos h]; exact dn_callV (e := (0, 55, 737)) (as := [.int a0, .int a1]) (rest := []) eX6_read dX6_read_74 (by decide +kernel) rfl (by decide +kernel) rfl (dcat_le rfl) (dlen_le rfl) rfl h
  · rw [if_neg h]; exact den_noV (e := (0, 55, 737)) (as := [.int a0, .int a1]) (rest := []) eX6_read dX6_read_74 (by decide +kernel) rfl rfl rfl h
theorem rX6_read_116 (l0 l1 l2 l3 l4 l5 l6 l7 l8 l9 : Option Value) (a0 : Int32) (a1 : Int32) (a2 : Int32) (q : Nat) (σ : dS) : den mX6_read 116 [l0, l1, l2, l3, l4, l5, l6, l7, l8, l9] [.int a2, .int a1, .int a0, .ref q] σ = if disO σ q 2 = true then ((dcall mX3_mayChange [.ref q, .int a0, .int a1, .int a2] σ).bind fun r => den mX6_read 119 [l0, l1, l2, l3, l4, l5, l6, l7, l8, l9] (r.1.toList ++ []) r.2) else none := by
  by_cases h : disO σ q 2 = true
  · rw [if_pos h]; exact dn_callV (e := (0, 43, 690)) (as := [.int a0, .int a1, .int a2]) (rest := []) eX6_read dX6_read_116 (by decide +kernel) rfl (by decide +kernel) rfl (dcat_le rfl) (dlen_le rfl) rfl h
  · rw [if_neg h]; exact den_noV (e := (0, 43, 690)) (as := [.int a0, .int a1, .int a2]) (rest := []) eX6_read dX6_read_116 (by decide +kernel) rfl rfl rfl h
theorem hX6_read_140 (l0 l1 l2 l3 l4 l5 l6 l7 l9 : Option Value) (x : Int32) (st : List Value) (σ : dS) : den mX6_read 140 [l0, l1, l2, l3, l4, l5, l6, l7, some (.int x), l9] st σ = den mX6_read 142 [l0, l1, l2, l3, l4, l5, l6, l7, some (.int x), l9] (.int x :: st) σ := dn_iload eX6_read dX6_read_140 rfl
theorem rX6_read_187 (l0 l1 l2 l3 l4 l5 l6 l7 l8 l9 : Option Value) (a0 : Int32) (a1 : Int32) (a2 : Int32) (q : Nat) (σ : dS) : den mX6_read 187 [l0, l1, l2, l3, l4, l5, l6, l7, l8, l9] [.int a2, .int a1, .int a0, .ref q] σ = if disO σ q 2 = true then ((dcall mX3_change [.ref q, .int a0, .int a1, .int a2] σ).bind fun r => den mX6_read 190 [l0, l1, l2, l3, l4, l5, l6, l7, l8, l9] (r.1.toList ++ []) r.2) else none := by
  by_cases h : disO σ q 2 = true
  · rw [if_pos h]; exact dn_callV (e := (0, 44, 700)) (as := [.int a0, .int a1, .int a2]) (rest := []) eX6_read dX6_read_187 (by decide +kernel) rfl (by decide +kernel) rfl (dcat_le rfl) (dlen_le rfl) rfl h
  · rw [if_neg h]; exact den_noV (e := (0, 44, 700)) (as := [.int a0, .int a1, .int a2]) (rest := []) eX6_read dX6_read_187 (by decide +kernel) rfl rfl rfl h
set_option maxRecDepth 20000 in
theorem SX6_read_0 : (∀ (l0 l2 l3 l4 l5 l6 l7 l8 l9 : Option Value) (x : Int32) (st : List Value) (σ : dS), den mX6_read 0 [l0, some (.int x), l2, l3, l4, l5, l6, l7, l8, l9] st σ = den mX6_read 1 [l0, some (.int x), l2, l3, l4, l5, l6, l7, l8, l9] (.int x :: st) σ) ∧
  (∀ (l0 l1 l2 l3 l4 l5 l6 l7 l8 l9 : Option Value) (x : Int32) (st : List Value) (σ : dS), den mX6_read 1 [l0, l1, l2, l3, l4, l5, l6, l7, l8, l9] (.int x :: st) σ = if x < 0 then den mX6_read 30 [l0, l1, l2, l3, l4, l5, l6, l7, l8, l9] st σ else den mX6_read 4 [l0, l1, l2, l3, l4, l5, l6, l7, l8, l9] st σ) ∧
  (∀ (l0 l2 l3 l4 l5 l6 l7 l8 l9 : Option Value) (x : Int32) (st : List Value) (σ : dS), den mX6_read 4 [l0, some (.int x), l2, l3, l4, l5, l6, l7, l8, l9] st σ = den mX6_read 5 [l0, some (.int x), l2, l3, l4, l5, l6, l7, l8, l9] (.int x :: st) σ) ∧
  (∀ (l0 l1 l2 l3 l4 l5 l6 l7 l8 l9 : Option Value) (st : List Value) (σ : dS), den mX6_read 5 [l0, l1, l2, l3, l4, l5, l6, l7, l8, l9] st σ = den mX6_read 6 [l0, l1, l2, l3, l4, l5, l6, l7, l8, l9] (.int (nI 4) :: st) σ) ∧
  (∀ (l0 l1 l2 l3 l4 l5 l6 l7 l8 l9 : Option Value) (x y : Int32) (st : List Value) (σ : dS), den mX6_read 6 [l0, l1, l2, l3, l4, l5, l6, l7, l8, l9] (.int y :: .int x :: st) σ = if x < y then den mX6_read 9 [l0, l1, l2, l3, l4, l5, l6, l7, l8, l9] st σ else den mX6_read 30 [l0, l1, l2, l3, l4, l5, l6, l7, l8, l9] st σ) ∧
  (∀ (l0 l1 l3 l4 l5 l6 l7 l8 l9 : Option Value) (x : Int32) (st : List Value) (σ : dS), den mX6_read 9 [l0, l1, some (.int x), l3, l4, l5, l6, l7, l8, l9] st σ = den mX6_read 10 [l0, l1, some (.int x), l3, l4, l5, l6, l7, l8, l9] (.int x :: st) σ) ∧
  (∀ (l0 l1 l2 l3 l4 l5 l6 l7 l8 l9 : Option Value) (x : Int32) (st : List Value) (σ : dS), den mX6_read 10 [l0, l1, l2, l3, l4, l5, l6, l7, l8, l9] (.int x :: st) σ = if x < 0 then den mX6_read 30 [l0, l1, l2, l3, l4, l5, l6, l7, l8, l9] st σ else den mX6_read 13 [l0, l1, l2, l3, l4, l5, l6, l7, l8, l9] st σ) ∧
  (∀ (l0 l1 l3 l4 l5 l6 l7 l8 l9 : Option Value) (x : Int32) (st : List Value) (σ : dS), den mX6_read 13 [l0, l1, some (.int x), l3, l4, l5, l6, l7, l8, l9] st σ = den mX6_read 14 [l0, l1, some (.int x), l3, l4, l5, l6, l7, l8, l9] (.int x :: st) σ) ∧
  (∀ (l0 l1 l2 l3 l4 l5 l6 l7 l8 l9 : Option Value) (st : List Value) (σ : dS), den mX6_read 14 [l0, l1, l2, l3, l4, l5, l6, l7, l8, l9] st σ = den mX6_read 15 [l0, l1, l2, l3, l4, l5, l6, l7, l8, l9] (.int (nI 2) :: st) σ) ∧
  (∀ (l0 l1 l2 l3 l4 l5 l6 l7 l8 l9 : Option Value) (x y : Int32) (st : List Value) (σ : dS), den mX6_read 15 [l0, l1, l2, l3, l4, l5, l6, l7, l8, l9] (.int y :: .int x :: st) σ = if y < x then den mX6_read 30 [l0, l1, l2, l3, l4, l5, l6, l7, l8, l9] st σ else den mX6_read 18 [l0, l1, l2, l3, l4, l5, l6, l7, l8, l9] st σ) ∧
  (∀ (l0 l1 l2 l3 l5 l6 l7 l8 l9 : Option Value) (x : Int32) (st : List Value) (σ : dS), den mX6_read 18 [l0, l1, l2, l3, some (.int x), l5, l6, l7, l8, l9] st σ = den mX6_read 20 [l0, l1, l2, l3, some (.int x), l5, l6, l7, l8, l9] (.int x :: st) σ) ∧
  (∀ (l0 l1 l2 l3 l4 l5 l6 l7 l8 l9 : Option Value) (x : Int32) (st : List Value) (σ : dS), den mX6_read 20 [l0, l1, l2, l3, l4, l5, l6, l7, l8, l9] (.int x :: st) σ = if x < 0 then den mX6_read 30 [l0, l1, l2, l3, l4, l5, l6, l7, l8, l9] st σ else den mX6_read 23 [l0, l1, l2, l3, l4, l5, l6, l7, l8, l9] st σ) ∧
  (∀ (l0 l1 l2 l3 l5 l6 l7 l8 l9 : Option Value) (x : Int32) (st : List Value) (σ : dS), den mX6_read 23 [l0, l1, l2, l3, some (.int x), l5, l6, l7, l8, l9] st σ = den mX6_read 25 [l0, l1, l2, l3, some (.int x), l5, l6, l7, l8, l9] (.int x :: st) σ) ∧
  (∀ (l0 l1 l2 l3 l4 l5 l6 l7 l8 l9 : Option Value) (st : List Value) (σ : dS), den mX6_read 25 [l0, l1, l2, l3, l4, l5, l6, l7, l8, l9] st σ = den mX6_read 27 [l0, l1, l2, l3, l4, l5, l6, l7, l8, l9] (.int (nI 13) :: st) σ) ∧
  (∀ (l0 l1 l2 l3 l4 l5 l6 l7 l8 l9 : Option Value) (x y : Int32) (st : List Value) (σ : dS), den mX6_read 27 [l0, l1, l2, l3, l4, l5, l6, l7, l8, l9] (.int y :: .int x :: st) σ = if y < x then den mX6_read 30 [l0, l1, l2, l3, l4, l5, l6, l7, l8, l9] st σ else den mX6_read 32 [l0, l1, l2, l3, l4, l5, l6, l7, l8, l9] st σ) ∧
  (∀ (l0 l1 l2 l3 l4 l5 l6 l7 l8 l9 : Option Value) (st : List Value) (σ : dS), den mX6_read 30 [l0, l1, l2, l3, l4, l5, l6, l7, l8, l9] st σ = den mX6_read 31 [l0, l1, l2, l3, l4, l5, l6, l7, l8, l9] (.int ((-1)) :: st) σ) ∧
  (∀ (l0 l1 l2 l3 l4 l5 l6 l7 l8 l9 : Option Value) (v : Int32) (σ : dS), den mX6_read 31 [l0, l1, l2, l3, l4, l5, l6, l7, l8, l9] [.int v] σ = some (some (.int v), σ)) ∧
  (∀ (l1 l2 l3 l4 l5 l6 l7 l8 l9 : Option Value) (x : Nat) (st : List Value) (σ : dS), den mX6_read 32 [some (.ref x), l1, l2, l3, l4, l5, l6, l7, l8, l9] st σ = den mX6_read 33 [some (.ref x), l1, l2, l3, l4, l5, l6, l7, l8, l9] (.ref x :: st) σ) ∧
  (∀ (l0 l1 l2 l3 l4 l5 l6 l7 l8 l9 : Option Value) (q : Nat) (st : List Value) (σ : dS), den mX6_read 33 [l0, l1, l2, l3, l4, l5, l6, l7, l8, l9] (.ref q :: st) σ = (dget σ q 5 7).bind fun v => den mX6_read 36 [l0, l1, l2, l3, l4, l5, l6, l7, l8, l9] (v :: st) σ) ∧
  (∀ (l0 l2 l3 l4 l5 l6 l7 l8 l9 : Option Value) (x : Int32) (st : List Value) (σ : dS), den mX6_read 36 [l0, some (.int x), l2, l3, l4, l5, l6, l7, l8, l9] st σ = den mX6_read 37 [l0, some (.int x), l2, l3, l4, l5, l6, l7, l8, l9] (.int x :: st) σ) ∧
  (∀ (l0 l1 l2 l3 l4 l5 l6 l7 l8 l9 : Option Value) (q : Nat) (i : Int32) (st : List Value) (σ : dS), den mX6_read 37 [l0, l1, l2, l3, l4, l5, l6, l7, l8, l9] (.int i :: .ref q :: st) σ = (drld σ q i).bind fun v => den mX6_read 38 [l0, l1, l2, l3, l4, l5, l6, l7, l8, l9] (v :: st) σ) ∧
  (∀ (l0 l1 l2 l3 l5 l6 l7 l8 l9 : Option Value) (x : Nat) (y : Int32) (st : List Value) (σ : dS), den mX6_read 38 [l0, l1, l2, l3, some (.int y), l5, l6, l7, l8, l9] (.ref x :: st) σ = den mX6_read 40 [l0, l1, l2, l3, some (.int y), some (.ref x), l6, l7, l8, l9] st σ) ∧
  (∀ (l0 l1 l2 l3 l4 l5 l6 l7 l8 l9 : Option Value) (st : List Value) (σ : dS), den mX6_read 40 [l0, l1, l2, l3, l4, l5, l6, l7, l8, l9] st σ = den mX6_read 41 [l0, l1, l2, l3, l4, l5, l6, l7, l8, l9] (.int (nI 0) :: st) σ) ∧
  (∀ (l0 l1 l2 l3 l4 l6 l7 l8 l9 : Option Value) (x : Int32) (y : Nat) (st : List Value) (σ : dS), den mX6_read 41 [l0, l1, l2, l3, l4, some (.ref y), l6, l7, l8, l9] (.int x :: st) σ = den mX6_read 43 [l0, l1, l2, l3, l4, some (.ref y), some (.int x), l7, l8, l9] st σ) ∧
  (∀ (l0 l1 l2 l3 l4 l5 l6 l7 l8 l9 : Option Value) (st : List Value) (σ : dS), den mX6_read 43 [l0, l1, l2, l3, l4, l5, l6, l7, l8, l9] st σ = den mX6_read 44 [l0, l1, l2, l3, l4, l5, l6, l7, l8, l9] (.int (nI 0) :: st) σ) ∧
  (∀ (l0 l1 l2 l3 l4 l5 l7 l8 l9 : Option Value) (x : Int32) (y : Int32) (st : List Value) (σ : dS), den mX6_read 44 [l0, l1, l2, l3, l4, l5, some (.int y), l7, l8, l9] (.int x :: st) σ = den mX6_read 46 [l0, l1, l2, l3, l4, l5, some (.int y), some (.int x), l8, l9] st σ) ∧
  (∀ (l0 l1 l2 l3 l4 l5 l6 l7 l8 l9 : Option Value) (st : List Value) (σ : dS), den mX6_read 46 [l0, l1, l2, l3, l4, l5, l6, l7, l8, l9] st σ = den mX6_read 47 [l0, l1, l2, l3, l4, l5, l6, l7, l8, l9] (.int (nI 0) :: st) σ) ∧
  (∀ (l0 l1 l2 l3 l4 l5 l6 l8 l9 : Option Value) (x : Int32) (y : Int32) (st : List Value) (σ : dS), den mX6_read 47 [l0, l1, l2, l3, l4, l5, l6, some (.int y), l8, l9] (.int x :: st) σ = den mX6_read 49 [l0, l1, l2, l3, l4, l5, l6, some (.int y), some (.int x), l9] st σ) ∧
  (∀ (l0 l1 l2 l3 l5 l6 l7 l8 l9 : Option Value) (x : Int32) (st : List Value) (σ : dS), den mX6_read 51 [l0, l1, l2, l3, some (.int x), l5, l6, l7, l8, l9] st σ = den mX6_read 53 [l0, l1, l2, l3, some (.int x), l5, l6, l7, l8, l9] (.int x :: st) σ) ∧
  (∀ (l0 l1 l2 l3 l4 l5 l6 l7 l8 l9 : Option Value) (x y : Int32) (st : List Value) (σ : dS), den mX6_read 53 [l0, l1, l2, l3, l4, l5, l6, l7, l8, l9] (.int y :: .int x :: st) σ = if x < y then den mX6_read 56 [l0, l1, l2, l3, l4, l5, l6, l7, l8, l9] st σ else den mX6_read 137 [l0, l1, l2, l3, l4, l5, l6, l7, l8, l9] st σ) ∧
  (∀ (l0 l1 l2 l3 l4 l5 l7 l8 l9 : Option Value) (x : Int32) (st : List Value) (σ : dS), den mX6_read 56 [l0, l1, l2, l3, l4, l5, some (.int x), l7, l8, l9] st σ = den mX6_read 58 [l0, l1, l2, l3, l4, l5, some (.int x), l7, l8, l9] (.int x :: st) σ) ∧
  (∀ (l0 l1 l2 l3 l4 l5 l6 l7 l8 l9 : Option Value) (x : Int32) (st : List Value) (σ : dS), den mX6_read 58 [l0, l1, l2, l3, l4, l5, l6, l7, l8, l9] (.int x :: st) σ = if x = 0 then den mX6_read 61 [l0, l1, l2, l3, l4, l5, l6, l7, l8, l9] st σ else den mX6_read 137 [l0, l1, l2, l3, l4, l5, l6, l7, l8, l9] st σ) ∧
  (∀ (l0 l1 l2 l4 l5 l6 l7 l8 l9 : Option Value) (x : Int32) (st : List Value) (σ : dS), den mX6_read 61 [l0, l1, l2, some (.int x), l4, l5, l6, l7, l8, l9] st σ = den mX6_read 62 [l0, l1, l2, some (.int x), l4, l5, l6, l7, l8, l9] (.int x :: st) σ) ∧
  (∀ (l0 l1 l2 l3 l4 l5 l6 l7 l8 l9 : Option Value) (st : List Value) (σ : dS), den mX6_read 62 [l0, l1, l2, l3, l4, l5, l6, l7, l8, l9] st σ = den mX6_read 63 [l0, l1, l2, l3, l4, l5, l6, l7, l8, l9] (.int (nI 3) :: st) σ) ∧
  (∀ (l0 l1 l2 l3 l4 l5 l6 l7 l9 : Option Value) (x : Int32) (st : List Value) (σ : dS), den mX6_read 63 [l0, l1, l2, l3, l4, l5, l6, l7, some (.int x), l9] st σ = den mX6_read 65 [l0, l1, l2, l3, l4, l5, l6, l7, some (.int x), l9] (.int x :: st) σ) ∧
  (∀ (l0 l1 l2 l3 l4 l5 l6 l7 l8 l9 : Option Value) (x y : Int32) (st : List Value) (σ : dS), den mX6_read 65 [l0, l1, l2, l3, l4, l5, l6, l7, l8, l9] (.int y :: .int x :: st) σ = den mX6_read 66 [l0, l1, l2, l3, l4, l5, l6, l7, l8, l9] (.int (x * y) :: st) σ) ∧
  (∀ (l0 l1 l2 l3 l4 l5 l6 l7 l8 l9 : Option Value) (x y : Int32) (st : List Value) (σ : dS), den mX6_read 66 [l0, l1, l2, l3, l4, l5, l6, l7, l8, l9] (.int y :: .int x :: st) σ = den mX6_read 67 [l0, l1, l2, l3, l4, l5, l6, l7, l8, l9] (.int (x + y) :: st) σ) ∧
  (∀ (l0 l1 l2 l3 l4 l5 l6 l7 l9 : Option Value) (x : Int32) (y : Int32) (st : List Value) (σ : dS), den mX6_read 67 [l0, l1, l2, l3, l4, l5, l6, l7, some (.int y), l9] (.int x :: st) σ = den mX6_read 69 [l0, l1, l2, l3, l4, l5, l6, l7, some (.int y), some (.int x)] st σ) ∧
  (∀ (l0 l1 l2 l3 l4 l6 l7 l8 l9 : Option Value) (x : Nat) (st : List Value) (σ : dS), den mX6_read 69 [l0, l1, l2, l3, l4, some (.ref x), l6, l7, l8, l9] st σ = den mX6_read 71 [l0, l1, l2, l3, l4, some (.ref x), l6, l7, l8, l9] (.ref x :: st) σ) ∧
  (∀ (l0 l1 l3 l4 l5 l6 l7 l8 l9 : Option Value) (x : Int32) (st : List Value) (σ : dS), den mX6_read 71 [l0, l1, some (.int x), l3, l4, l5, l6, l7, l8, l9] st σ = den mX6_read 72 [l0, l1, some (.int x), l3, l4, l5, l6, l7, l8, l9] (.int x :: st) σ) :=
  ⟨fun l0 l2 l3 l4 l5 l6 l7 l8 l9 x st σ => dn_iload_n eX6_read dX6_read_0 rfl,
  fun l0 l1 l2 l3 l4 l5 l6 l7 l8 l9 x st σ => dn_if_lt eX6_read dX6_read_1 (by decide),
  fun l0 l2 l3 l4 l5 l6 l7 l8 l9 x st σ => dn_iload_n eX6_read dX6_read_4 rfl,
  fun l0 l1 l2 l3 l4 l5 l6 l7 l8 l9 st σ => dn_iconst eX6_read dX6_read_5 kc_iconst_4,
  fun l0 l1 l2 l3 l4 l5 l6 l7 l8 l9 x y st σ => dn_icmp_ge eX6_read dX6_read_6 (by decide),
  fun l0 l1 l3 l4 l5 l6 l7 l8 l9 x st σ => dn_iload_n eX6_read dX6_read_9 rfl,
  fun l0 l1 l2 l3 l4 l5 l6 l7 l8 l9 x st σ => dn_if_lt eX6_read dX6_read_10 (by decide),
  fun l0 l1 l3 l4 l5 l6 l7 l8 l9 x st σ => dn_iload_n eX6_read dX6_read_13 rfl,
  fun l0 l1 l2 l3 l4 l5 l6 l7 l8 l9 st σ => dn_iconst eX6_read dX6_read_14 kc_iconst_2,
  fun l0 l1 l2 l3 l4 l5 l6 l7 l8 l9 x y st σ => dn_icmp_gt eX6_read dX6_read_15 (by decide),
  fun l0 l1 l2 l3 l5 l6 l7 l8 l9 x st σ => dn_iload eX6_read dX6_read_18 rfl,
  fun l0 l1 l2 l3 l4 l5 l6 l7 l8 l9 x st σ => dn_if_lt eX6_read dX6_read_20 (by decide),
  fun l0 l1 l2 l3 l5 l6 l7 l8 l9 x st σ => dn_iload eX6_read dX6_read_23 rfl,
  fun l0 l1 l2 l3 l4 l5 l6 l7 l8 l9 st σ => dn_bipush eX6_read dX6_read_25 kc_bipush_13,
  fun l0 l1 l2 l3 l4 l5 l6 l7 l8 l9 x y st σ => dn_icmp_le eX6_read dX6_read_27 (by decide),
  fun l0 l1 l2 l3 l4 l5 l6 l7 l8 l9 st σ => dn_iconst eX6_read dX6_read_30 kc_iconst_m1,
  fun l0 l1 l2 l3 l4 l5 l6 l7 l8 l9 v σ => dn_ireturn eX6_read dX6_read_31 rfl,
  fun l1 l2 l3 l4 l5 l6 l7 l8 l9 x st σ => dn_aload_n eX6_read dX6_read_32 rfl,
  fun l0 l1 l2 l3 l4 l5 l6 l7 l8 l9 q st σ => dn_getfield (f := (5, 7, 266)) eX6_read dX6_read_33 (by decide +kernel),
  fun l0 l2 l3 l4 l5 l6 l7 l8 l9 x st σ => dn_iload_n eX6_read dX6_read_36 rfl,
  fun l0 l1 l2 l3 l4 l5 l6 l7 l8 l9 q i st σ => dn_aaload eX6_read dX6_read_37,
  fun l0 l1 l2 l3 l5 l6 l7 l8 l9 x y st σ => dn_astore eX6_read dX6_read_38 rfl,
  fun l0 l1 l2 l3 l4 l5 l6 l7 l8 l9 st σ => dn_iconst eX6_read dX6_read_40 kc_iconst_0,
  fun l0 l1 l2 l3 l4 l6 l7 l8 l9 x y st σ => dn_istore eX6_read dX6_read_41 rfl,
  fun l0 l1 l2 l3 l4 l5 l6 l7 l8 l9 st σ => dn_iconst eX6_read dX6_read_43 kc_iconst_0,
  fun l0 l1 l2 l3 l4 l5 l7 l8 l9 x y st σ => dn_istore eX6_read dX6_read_44 rfl,
  fun l0 l1 l2 l3 l4 l5 l6 l7 l8 l9 st σ => dn_iconst eX6_read dX6_read_46 kc_iconst_0,
  fun l0 l1 l2 l3 l4 l5 l6 l8 l9 x y st σ => dn_istore eX6_read dX6_read_47 rfl,
  fun l0 l1 l2 l3 l5 l6 l7 l8 l9 x st σ => dn_iload eX6_read dX6_read_51 rfl,
  fun l0 l1 l2 l3 l4 l5 l6 l7 l8 l9 x y st σ => dn_icmp_ge eX6_read dX6_read_53 (by decide),
  fun l0 l1 l2 l3 l4 l5 l7 l8 l9 x st σ => dn_iload eX6_read dX6_read_56 rfl,
  fun l0 l1 l2 l3 l4 l5 l6 l7 l8 l9 x st σ => dn_if_ne eX6_read dX6_read_58 (by decide),
  fun l0 l1 l2 l4 l5 l6 l7 l8 l9 x st σ => dn_iload_n eX6_read dX6_read_61 rfl,
  fun l0 l1 l2 l3 l4 l5 l6 l7 l8 l9 st σ => dn_iconst eX6_read dX6_read_62 kc_iconst_3,
  fun l0 l1 l2 l3 l4 l5 l6 l7 l9 x st σ => dn_iload eX6_read dX6_read_63 rfl,
  fun l0 l1 l2 l3 l4 l5 l6 l7 l8 l9 x y st σ => dn_imul eX6_read dX6_read_65,
  fun l0 l1 l2 l3 l4 l5 l6 l7 l8 l9 x y st σ => dn_iadd eX6_read dX6_read_66,
  fun l0 l1 l2 l3 l4 l5 l6 l7 l9 x y st σ => dn_istore eX6_read dX6_read_67 rfl,
  fun l0 l1 l2 l3 l4 l6 l7 l8 l9 x st σ => dn_aload eX6_read dX6_read_69 rfl,
  fun l0 l1 l3 l4 l5 l6 l7 l8 l9 x st σ => dn_iload_n eX6_read dX6_read_71 rfl⟩
set_option maxRecDepth 20000 in
theorem SX6_read_1 : (∀ (l0 l1 l2 l3 l4 l5 l6 l7 l8 : Option Value) (x : Int32) (st : List Value) (σ : dS), den mX6_read 72 [l0, l1, l2, l3, l4, l5, l6, l7, l8, some (.int x)] st σ = den mX6_read 74 [l0, l1, l2, l3, l4, l5, l6, l7, l8, some (.int x)] (.int x :: st) σ) ∧
  (∀ (l0 l1 l2 l3 l4 l5 l6 l7 l8 l9 : Option Value) (a0 : Int32) (a1 : Int32) (q : Nat) (σ : dS), den mX6_read 74 [l0, l1, l2, l3, l4, l5, l6, l7, l8, l9] [.int a1, .int a0, .ref q] σ = if disO σ q 3 = true then ((dcall mX4_faultOfChange [.ref q, .int a0, .int a1] σ).bind fun r => den mX6_read 77 [l0, l1, l2, l3, l4, l5, l6, l7, l8, l9] (r.1.toList ++ []) r.2) else none) ∧
  (∀ (l0 l1 l2 l3 l4 l6 l7 l8 l9 : Option Value) (x : Int32) (y : Nat) (st : List Value) (σ : dS), den mX6_read 77 [l0, l1, l2, l3, l4, some (.ref y), l6, l7, l8, l9] (.int x :: st) σ = den mX6_read 79 [l0, l1, l2, l3, l4, some (.ref y), some (.int x), l7, l8, l9] st σ) ∧
  (∀ (l0 l1 l2 l3 l4 l5 l7 l8 l9 : Option Value) (x : Int32) (st : List Value) (σ : dS), den mX6_read 79 [l0, l1, l2, l3, l4, l5, some (.int x), l7, l8, l9] st σ = den mX6_read 81 [l0, l1, l2, l3, l4, l5, some (.int x), l7, l8, l9] (.int x :: st) σ) ∧
  (∀ (l0 l1 l2 l3 l4 l5 l6 l7 l8 l9 : Option Value) (x : Int32) (st : List Value) (σ : dS), den mX6_read 81 [l0, l1, l2, l3, l4, l5, l6, l7, l8, l9] (.int x :: st) σ = if x = 0 then den mX6_read 84 [l0, l1, l2, l3, l4, l5, l6, l7, l8, l9] st σ else den mX6_read 131 [l0, l1, l2, l3, l4, l5, l6, l7, l8, l9] st σ) ∧
  (∀ (l1 l2 l3 l4 l5 l6 l7 l8 l9 : Option Value) (x : Nat) (st : List Value) (σ : dS), den mX6_read 84 [some (.ref x), l1, l2, l3, l4, l5, l6, l7, l8, l9] st σ = den mX6_read 85 [some (.ref x), l1, l2, l3, l4, l5, l6, l7, l8, l9] (.ref x :: st) σ) ∧
  (∀ (l0 l1 l2 l3 l4 l5 l6 l7 l8 l9 : Option Value) (q : Nat) (st : List Value) (σ : dS), den mX6_read 85 [l0, l1, l2, l3, l4, l5, l6, l7, l8, l9] (.ref q :: st) σ = (dget σ q 5 1).bind fun v => den mX6_read 88 [l0, l1, l2, l3, l4, l5, l6, l7, l8, l9] (v :: st) σ) ∧
  (∀ (l0 l1 l2 l3 l4 l6 l7 l8 l9 : Option Value) (x : Nat) (st : List Value) (σ : dS), den mX6_read 88 [l0, l1, l2, l3, l4, some (.ref x), l6, l7, l8, l9] st σ = den mX6_read 90 [l0, l1, l2, l3, l4, some (.ref x), l6, l7, l8, l9] (.ref x :: st) σ) ∧
  (∀ (l0 l1 l2 l3 l4 l5 l6 l7 l8 l9 : Option Value) (q : Nat) (st : List Value) (σ : dS), den mX6_read 90 [l0, l1, l2, l3, l4, l5, l6, l7, l8, l9] (.ref q :: st) σ = (dget σ q 3 0).bind fun v => den mX6_read 93 [l0, l1, l2, l3, l4, l5, l6, l7, l8, l9] (v :: st) σ) ∧
  (∀ (l0 l1 l2 l3 l4 l5 l6 l7 l8 : Option Value) (x : Int32) (st : List Value) (σ : dS), den mX6_read 93 [l0, l1, l2, l3, l4, l5, l6, l7, l8, some (.int x)] st σ = den mX6_read 95 [l0, l1, l2, l3, l4, l5, l6, l7, l8, some (.int x)] (.int x :: st) σ) ∧
  (∀ (l0 l1 l2 l3 l4 l5 l6 l7 l8 l9 : Option Value) (q : Nat) (i : Int32) (st : List Value) (σ : dS), den mX6_read 95 [l0, l1, l2, l3, l4, l5, l6, l7, l8, l9] (.int i :: .ref q :: st) σ = if q ≤ dN then (dald σ q 0 i).bind (fun v => den mX6_read 96 [l0, l1, l2, l3, l4, l5, l6, l7, l8, l9] (.int v :: st) σ) else none) ∧
  (∀ (l0 l1 l2 l3 l4 l6 l7 l8 l9 : Option Value) (x : Nat) (st : List Value) (σ : dS), den mX6_read 96 [l0, l1, l2, l3, l4, some (.ref x), l6, l7, l8, l9] st σ = den mX6_read 98 [l0, l1, l2, l3, l4, some (.ref x), l6, l7, l8, l9] (.ref x :: st) σ) ∧
  (∀ (l0 l1 l2 l3 l4 l5 l6 l7 l8 l9 : Option Value) (q : Nat) (st : List Value) (σ : dS), den mX6_read 98 [l0, l1, l2, l3, l4, l5, l6, l7, l8, l9] (.ref q :: st) σ = (dget σ q 3 0).bind fun v => den mX6_read 101 [l0, l1, l2, l3, l4, l5, l6, l7, l8, l9] (v :: st) σ) ∧
  (∀ (l0 l1 l2 l3 l4 l5 l6 l7 l8 : Option Value) (x : Int32) (st : List Value) (σ : dS), den mX6_read 101 [l0, l1, l2, l3, l4, l5, l6, l7, l8, some (.int x)] st σ = den mX6_read 103 [l0, l1, l2, l3, l4, l5, l6, l7, l8, some (.int x)] (.int x :: st) σ) ∧
  (∀ (l0 l1 l2 l3 l4 l5 l6 l7 l8 l9 : Option Value) (st : List Value) (σ : dS), den mX6_read 103 [l0, l1, l2, l3, l4, l5, l6, l7, l8, l9] st σ = den mX6_read 104 [l0, l1, l2, l3, l4, l5, l6, l7, l8, l9] (.int (nI 1) :: st) σ) ∧
  (∀ (l0 l1 l2 l3 l4 l5 l6 l7 l8 l9 : Option Value) (x y : Int32) (st : List Value) (σ : dS), den mX6_read 104 [l0, l1, l2, l3, l4, l5, l6, l7, l8, l9] (.int y :: .int x :: st) σ = den mX6_read 105 [l0, l1, l2, l3, l4, l5, l6, l7, l8, l9] (.int (x + y) :: st) σ) ∧
  (∀ (l0 l1 l2 l3 l4 l5 l6 l7 l8 l9 : Option Value) (q : Nat) (i : Int32) (st : List Value) (σ : dS), den mX6_read 105 [l0, l1, l2, l3, l4, l5, l6, l7, l8, l9] (.int i :: .ref q :: st) σ = if q ≤ dN then (dald σ q 0 i).bind (fun v => den mX6_read 106 [l0, l1, l2, l3, l4, l5, l6, l7, l8, l9] (.int v :: st) σ) else none) ∧
  (∀ (l0 l1 l2 l3 l4 l6 l7 l8 l9 : Option Value) (x : Nat) (st : List Value) (σ : dS), den mX6_read 106 [l0, l1, l2, l3, l4, some (.ref x), l6, l7, l8, l9] st σ = den mX6_read 108 [l0, l1, l2, l3, l4, some (.ref x), l6, l7, l8, l9] (.ref x :: st) σ) ∧
  (∀ (l0 l1 l2 l3 l4 l5 l6 l7 l8 l9 : Option Value) (q : Nat) (st : List Value) (σ : dS), den mX6_read 108 [l0, l1, l2, l3, l4, l5, l6, l7, l8, l9] (.ref q :: st) σ = (dget σ q 3 0).bind fun v => den mX6_read 111 [l0, l1, l2, l3, l4, l5, l6, l7, l8, l9] (v :: st) σ) ∧
  (∀ (l0 l1 l2 l3 l4 l5 l6 l7 l8 : Option Value) (x : Int32) (st : List Value) (σ : dS), den mX6_read 111 [l0, l1, l2, l3, l4, l5, l6, l7, l8, some (.int x)] st σ = den mX6_read 113 [l0, l1, l2, l3, l4, l5, l6, l7, l8, some (.int x)] (.int x :: st) σ) ∧
  (∀ (l0 l1 l2 l3 l4 l5 l6 l7 l8 l9 : Option Value) (st : List Value) (σ : dS), den mX6_read 113 [l0, l1, l2, l3, l4, l5, l6, l7, l8, l9] st σ = den mX6_read 114 [l0, l1, l2, l3, l4, l5, l6, l7, l8, l9] (.int (nI 2) :: st) σ) ∧
  (∀ (l0 l1 l2 l3 l4 l5 l6 l7 l8 l9 : Option Value) (x y : Int32) (st : List Value) (σ : dS), den mX6_read 114 [l0, l1, l2, l3, l4, l5, l6, l7, l8, l9] (.int y :: .int x :: st) σ = den mX6_read 115 [l0, l1, l2, l3, l4, l5, l6, l7, l8, l9] (.int (x + y) :: st) σ) ∧
  (∀ (l0 l1 l2 l3 l4 l5 l6 l7 l8 l9 : Option Value) (q : Nat) (i : Int32) (st : List Value) (σ : dS), den mX6_read 115 [l0, l1, l2, l3, l4, l5, l6, l7, l8, l9] (.int i :: .ref q :: st) σ = if q ≤ dN then (dald σ q 0 i).bind (fun v => den mX6_read 116 [l0, l1, l2, l3, l4, l5, l6, l7, l8, l9] (.int v :: st) σ) else none) ∧
  (∀ (l0 l1 l2 l3 l4 l5 l6 l7 l8 l9 : Option Value) (a0 : Int32) (a1 : Int32) (a2 : Int32) (q : Nat) (σ : dS), den mX6_read 116 [l0, l1, l2, l3, l4, l5, l6, l7, l8, l9] [.int a2, .int a1, .int a0, .ref q] σ = if disO σ q 2 = true then ((dcall mX3_mayChange [.ref q, .int a0, .int a1, .int a2] σ).bind fun r => den mX6_read 119 [l0, l1, l2, l3, l4, l5, l6, l7, l8, l9] (r.1.toList ++ []) r.2) else none) ∧
  (∀ (l0 l1 l2 l3 l4 l5 l6 l7 l8 l9 : Option Value) (x : Int32) (st : List Value) (σ : dS), den mX6_read 119 [l0, l1, l2, l3, l4, l5, l6, l7, l8, l9] (.int x :: st) σ = if x = 0 then den mX6_read 122 [l0, l1, l2, l3, l4, l5, l6, l7, l8, l9] st σ else den mX6_read 128 [l0, l1, l2, l3, l4, l5, l6, l7, l8, l9] st σ) ∧
  (∀ (l0 l1 l2 l3 l4 l5 l6 l7 l8 l9 : Option Value) (st : List Value) (σ : dS), den mX6_read 122 [l0, l1, l2, l3, l4, l5, l6, l7, l8, l9] st σ = den mX6_read 124 [l0, l1, l2, l3, l4, l5, l6, l7, l8, l9] (.int ((-20)) :: st) σ) ∧
  (∀ (l0 l1 l2 l3 l4 l5 l6 l7 l9 : Option Value) (x : Int32) (st : List Value) (σ : dS), den mX6_read 124 [l0, l1, l2, l3, l4, l5, l6, l7, some (.int x), l9] st σ = den mX6_read 126 [l0, l1, l2, l3, l4, l5, l6, l7, some (.int x), l9] (.int x :: st) σ) ∧
  (∀ (l0 l1 l2 l3 l4 l5 l6 l7 l8 l9 : Option Value) (x y : Int32) (st : List Value) (σ : dS), den mX6_read 126 [l0, l1, l2, l3, l4, l5, l6, l7, l8, l9] (.int y :: .int x :: st) σ = den mX6_read 127 [l0, l1, l2, l3, l4, l5, l6, l7, l8, l9] (.int (x - y) :: st) σ) ∧
  (∀ (l0 l1 l2 l3 l4 l5 l6 l7 l8 l9 : Option Value) (v : Int32) (σ : dS), den mX6_read 127 [l0, l1, l2, l3, l4, l5, l6, l7, l8, l9] [.int v] σ = some (some (.int v), σ)) ∧
  (∀ (l0 l1 l2 l3 l4 l5 l8 l9 : Option Value) (x : Int32) (y : Int32) (st : List Value) (σ : dS), den mX6_read 128 [l0, l1, l2, l3, l4, l5, some (.int y), some (.int x), l8, l9] st σ = den mX6_read 131 [l0, l1, l2, l3, l4, l5, some (.int y), some (.int (x + nI 1)), l8, l9] st σ) ∧
  (∀ (l0 l1 l2 l3 l4 l5 l6 l9 : Option Value) (x : Int32) (y : Int32) (st : List Value) (σ : dS), den mX6_read 131 [l0, l1, l2, l3, l4, l5, l6, some (.int y), some (.int x), l9] st σ = den mX6_read 134 [l0, l1, l2, l3, l4, l5, l6, some (.int y), some (.int (x + nI 1)), l9] st σ) ∧
  (∀ (l0 l1 l2 l3 l4 l5 l6 l7 l8 l9 : Option Value) (st : List Value) (σ : dS), den mX6_read 134 [l0, l1, l2, l3, l4, l5, l6, l7, l8, l9] st σ = den mX6_read 49 [l0, l1, l2, l3, l4, l5, l6, l7, l8, l9] st σ) ∧
  (∀ (l0 l1 l2 l3 l4 l5 l6 l7 l8 l9 : Option Value) (st : List Value) (σ : dS), den mX6_read 137 [l0, l1, l2, l3, l4, l5, l6, l7, l8, l9] st σ = den mX6_read 138 [l0, l1, l2, l3, l4, l5, l6, l7, l8, l9] (.int (nI 0) :: st) σ) ∧
  (∀ (l0 l1 l2 l3 l4 l5 l6 l8 l9 : Option Value) (x : Int32) (y : Int32) (st : List Value) (σ : dS), den mX6_read 138 [l0, l1, l2, l3, l4, l5, l6, some (.int y), l8, l9] (.int x :: st) σ = den mX6_read 140 [l0, l1, l2, l3, l4, l5, l6, some (.int y), some (.int x), l9] st σ) ∧
  (∀ (l0 l1 l2 l3 l4 l5 l6 l8 l9 : Option Value) (x : Int32) (st : List Value) (σ : dS), den mX6_read 142 [l0, l1, l2, l3, l4, l5, l6, some (.int x), l8, l9] st σ = den mX6_read 144 [l0, l1, l2, l3, l4, l5, l6, some (.int x), l8, l9] (.int x :: st) σ) ∧
  (∀ (l0 l1 l2 l3 l4 l5 l6 l7 l8 l9 : Option Value) (x y : Int32) (st : List Value) (σ : dS), den mX6_read 144 [l0, l1, l2, l3, l4, l5, l6, l7, l8, l9] (.int y :: .int x :: st) σ = if x < y then den mX6_read 147 [l0, l1, l2, l3, l4, l5, l6, l7, l8, l9] st σ else den mX6_read 197 [l0, l1, l2, l3, l4, l5, l6, l7, l8, l9] st σ) ∧
  (∀ (l0 l1 l2 l4 l5 l6 l7 l8 l9 : Option Value) (x : Int32) (st : List Value) (σ : dS), den mX6_read 147 [l0, l1, l2, some (.int x), l4, l5, l6, l7, l8, l9] st σ = den mX6_read 148 [l0, l1, l2, some (.int x), l4, l5, l6, l7, l8, l9] (.int x :: st) σ) ∧
  (∀ (l0 l1 l2 l3 l4 l5 l6 l7 l8 l9 : Option Value) (st : List Value) (σ : dS), den mX6_read 148 [l0, l1, l2, l3, l4, l5, l6, l7, l8, l9] st σ = den mX6_read 149 [l0, l1, l2, l3, l4, l5, l6, l7, l8, l9] (.int (nI 3) :: st) σ) ∧
  (∀ (l0 l1 l2 l3 l4 l5 l6 l7 l9 : Option Value) (x : Int32) (st : List Value) (σ : dS), den mX6_read 149 [l0, l1, l2, l3, l4, l5, l6, l7, some (.int x), l9] st σ = den mX6_read 151 [l0, l1, l2, l3, l4, l5, l6, l7, some (.int x), l9] (.int x :: st) σ) ∧
  (∀ (l0 l1 l2 l3 l4 l5 l6 l7 l8 l9 : Option Value) (x y : Int32) (st : List Value) (σ : dS), den mX6_read 151 [l0, l1, l2, l3, l4, l5, l6, l7, l8, l9] (.int y :: .int x :: st) σ = den mX6_read 152 [l0, l1, l2, l3, l4, l5, l6, l7, l8, l9] (.int (x * y) :: st) σ) :=
  ⟨fun l0 l1 l2 l3 l4 l5 l6 l7 l8 x st σ => dn_iload eX6_read dX6_read_72 rfl,
  fun l0 l1 l2 l3 l4 l5 l6 l7 l8 l9 a0 a1 q σ => rX6_read_74 l0 l1 l2 l3 l4 l5 l6 l7 l8 l9 a0 a1 q σ,
  fun l0 l1 l2 l3 l4 l6 l7 l8 l9 x y st σ => dn_istore eX6_read dX6_read_77 rfl,
  fun l0 l1 l2 l3 l4 l5 l7 l8 l9 x st σ => dn_iload eX6_read dX6_read_79 rfl,
  fun l0 l1 l2 l3 l4 l5 l6 l7 l8 l9 x st σ => dn_if_ne eX6_read dX6_read_81 (by decide),
  fun l1 l2 l3 l4 l5 l6 l7 l8 l9 x st σ => dn_aload_n eX6_read dX6_read_84 rfl,
  fun l0 l1 l2 l3 l4 l5 l6 l7 l8 l9 q st σ => dn_getfield (f := (5, 1, 260)) eX6_read dX6_read_85 (by decide +kernel),
  fun l0 l1 l2 l3 l4 l6 l7 l8 l9 x st σ => dn_aload eX6_read dX6_read_88 rfl,
  fun l0 l1 l2 l3 l4 l5 l6 l7 l8 l9 q st σ => dn_getfield (f := (3, 0, 248)) eX6_read dX6_read_90 (by decide +kernel),
  fun l0 l1 l2 l3 l4 l5 l6 l7 l8 x st σ => dn_iload eX6_read dX6_read_93 rfl,
  fun l0 l1 l2 l3 l4 l5 l6 l7 l8 l9 q i st σ => dn_iaload eX6_read dX6_read_95,
  fun l0 l1 l2 l3 l4 l6 l7 l8 l9 x st σ => dn_aload eX6_read dX6_read_96 rfl,
  fun l0 l1 l2 l3 l4 l5 l6 l7 l8 l9 q st σ => dn_getfield (f := (3, 0, 248)) eX6_read dX6_read_98 (by decide +kernel),
  fun l0 l1 l2 l3 l4 l5 l6 l7 l8 x st σ => dn_iload eX6_read dX6_read_101 rfl,
  fun l0 l1 l2 l3 l4 l5 l6 l7 l8 l9 st σ => dn_iconst eX6_read dX6_read_103 kc_iconst_1,
  fun l0 l1 l2 l3 l4 l5 l6 l7 l8 l9 x y st σ => dn_iadd eX6_read dX6_read_104,
  fun l0 l1 l2 l3 l4 l5 l6 l7 l8 l9 q i st σ => dn_iaload eX6_read dX6_read_105,
  fun l0 l1 l2 l3 l4 l6 l7 l8 l9 x st σ => dn_aload eX6_read dX6_read_106 rfl,
  fun l0 l1 l2 l3 l4 l5 l6 l7 l8 l9 q st σ => dn_getfield (f := (3, 0, 248)) eX6_read dX6_read_108 (by decide +kernel),
  fun l0 l1 l2 l3 l4 l5 l6 l7 l8 x st σ => dn_iload eX6_read dX6_read_111 rfl,
  fun l0 l1 l2 l3 l4 l5 l6 l7 l8 l9 st σ => dn_iconst eX6_read dX6_read_113 kc_iconst_2,
  fun l0 l1 l2 l3 l4 l5 l6 l7 l8 l9 x y st σ => dn_iadd eX6_read dX6_read_114,
  fun l0 l1 l2 l3 l4 l5 l6 l7 l8 l9 q i st σ => dn_iaload eX6_read dX6_read_115,
  fun l0 l1 l2 l3 l4 l5 l6 l7 l8 l9 a0 a1 a2 q σ => rX6_read_116 l0 l1 l2 l3 l4 l5 l6 l7 l8 l9 a0 a1 a2 q σ,
  fun l0 l1 l2 l3 l4 l5 l6 l7 l8 l9 x st σ => dn_if_ne eX6_read dX6_read_119 (by decide),
  fun l0 l1 l2 l3 l4 l5 l6 l7 l8 l9 st σ => dn_bipush eX6_read dX6_read_122 kc_bipush_m20,
  fun l0 l1 l2 l3 l4 l5 l6 l7 l9 x st σ => dn_iload eX6_read dX6_read_124 rfl,
  fun l0 l1 l2 l3 l4 l5 l6 l7 l8 l9 x y st σ => dn_isub eX6_read dX6_read_126,
  fun l0 l1 l2 l3 l4 l5 l6 l7 l8 l9 v σ => dn_ireturn eX6_read dX6_read_127 rfl,
  fun l0 l1 l2 l3 l4 l5 l8 l9 x y st σ => dn_iinc (v := nI 1) eX6_read dX6_read_128 rfl kc_iconst_1 rfl,
  fun l0 l1 l2 l3 l4 l5 l6 l9 x y st σ => dn_iinc (v := nI 1) eX6_read dX6_read_131 rfl kc_iconst_1 rfl,
  fun l0 l1 l2 l3 l4 l5 l6 l7 l8 l9 st σ => dn_goto eX6_read dX6_read_134 (by decide),
  fun l0 l1 l2 l3 l4 l5 l6 l7 l8 l9 st σ => dn_iconst eX6_read dX6_read_137 kc_iconst_0,
  fun l0 l1 l2 l3 l4 l5 l6 l8 l9 x y st σ => dn_istore eX6_read dX6_read_138 rfl,
  fun l0 l1 l2 l3 l4 l5 l6 l8 l9 x st σ => dn_iload eX6_read dX6_read_142 rfl,
  fun l0 l1 l2 l3 l4 l5 l6 l7 l8 l9 x y st σ => dn_icmp_ge eX6_read dX6_read_144 (by decide),
  fun l0 l1 l2 l4 l5 l6 l7 l8 l9 x st σ => dn_iload_n eX6_read dX6_read_147 rfl,
  fun l0 l1 l2 l3 l4 l5 l6 l7 l8 l9 st σ => dn_iconst eX6_read dX6_read_148 kc_iconst_3,
  fun l0 l1 l2 l3 l4 l5 l6 l7 l9 x st σ => dn_iload eX6_read dX6_read_149 rfl,
  fun l0 l1 l2 l3 l4 l5 l6 l7 l8 l9 x y st σ => dn_imul eX6_read dX6_read_151⟩
set_option maxRecDepth 20000 in
theorem SX6_read_2 : (∀ (l0 l1 l2 l3 l4 l5 l6 l7 l8 l9 : Option Value) (x y : Int32) (st : List Value) (σ : dS), den mX6_read 152 [l0, l1, l2, l3, l4, l5, l6, l7, l8, l9] (.int y :: .int x :: st) σ = den mX6_read 153 [l0, l1, l2, l3, l4, l5, l6, l7, l8, l9] (.int (x + y) :: st) σ) ∧
  (∀ (l0 l1 l2 l3 l4 l5 l6 l7 l9 : Option Value) (x : Int32) (y : Int32) (st : List Value) (σ : dS), den mX6_read 153 [l0, l1, l2, l3, l4, l5, l6, l7, some (.int y), l9] (.int x :: st) σ = den mX6_read 155 [l0, l1, l2, l3, l4, l5, l6, l7, some (.int y), some (.int x)] st σ) ∧
  (∀ (l1 l2 l3 l4 l5 l6 l7 l8 l9 : Option Value) (x : Nat) (st : List Value) (σ : dS), den mX6_read 155 [some (.ref x), l1, l2, l3, l4, l5, l6, l7, l8, l9] st σ = den mX6_read 156 [some (.ref x), l1, l2, l3, l4, l5, l6, l7, l8, l9] (.ref x :: st) σ) ∧
  (∀ (l0 l1 l2 l3 l4 l5 l6 l7 l8 l9 : Option Value) (q : Nat) (st : List Value) (σ : dS), den mX6_read 156 [l0, l1, l2, l3, l4, l5, l6, l7, l8, l9] (.ref q :: st) σ = (dget σ q 5 1).bind fun v => den mX6_read 159 [l0, l1, l2, l3, l4, l5, l6, l7, l8, l9] (v :: st) σ) ∧
  (∀ (l0 l1 l2 l3 l4 l6 l7 l8 l9 : Option Value) (x : Nat) (st : List Value) (σ : dS), den mX6_read 159 [l0, l1, l2, l3, l4, some (.ref x), l6, l7, l8, l9] st σ = den mX6_read 161 [l0, l1, l2, l3, l4, some (.ref x), l6, l7, l8, l9] (.ref x :: st) σ) ∧
  (∀ (l0 l1 l2 l3 l4 l5 l6 l7 l8 l9 : Option Value) (q : Nat) (st : List Value) (σ : dS), den mX6_read 161 [l0, l1, l2, l3, l4, l5, l6, l7, l8, l9] (.ref q :: st) σ = (dget σ q 3 0).bind fun v => den mX6_read 164 [l0, l1, l2, l3, l4, l5, l6, l7, l8, l9] (v :: st) σ) ∧
  (∀ (l0 l1 l2 l3 l4 l5 l6 l7 l8 : Option Value) (x : Int32) (st : List Value) (σ : dS), den mX6_read 164 [l0, l1, l2, l3, l4, l5, l6, l7, l8, some (.int x)] st σ = den mX6_read 166 [l0, l1, l2, l3, l4, l5, l6, l7, l8, some (.int x)] (.int x :: st) σ) ∧
  (∀ (l0 l1 l2 l3 l4 l5 l6 l7 l8 l9 : Option Value) (q : Nat) (i : Int32) (st : List Value) (σ : dS), den mX6_read 166 [l0, l1, l2, l3, l4, l5, l6, l7, l8, l9] (.int i :: .ref q :: st) σ = if q ≤ dN then (dald σ q 0 i).bind (fun v => den mX6_read 167 [l0, l1, l2, l3, l4, l5, l6, l7, l8, l9] (.int v :: st) σ) else none) ∧
  (∀ (l0 l1 l2 l3 l4 l6 l7 l8 l9 : Option Value) (x : Nat) (st : List Value) (σ : dS), den mX6_read 167 [l0, l1, l2, l3, l4, some (.ref x), l6, l7, l8, l9] st σ = den mX6_read 169 [l0, l1, l2, l3, l4, some (.ref x), l6, l7, l8, l9] (.ref x :: st) σ) ∧
  (∀ (l0 l1 l2 l3 l4 l5 l6 l7 l8 l9 : Option Value) (q : Nat) (st : List Value) (σ : dS), den mX6_read 169 [l0, l1, l2, l3, l4, l5, l6, l7, l8, l9] (.ref q :: st) σ = (dget σ q 3 0).bind fun v => den mX6_read 172 [l0, l1, l2, l3, l4, l5, l6, l7, l8, l9] (v :: st) σ) ∧
  (∀ (l0 l1 l2 l3 l4 l5 l6 l7 l8 : Option Value) (x : Int32) (st : List Value) (σ : dS), den mX6_read 172 [l0, l1, l2, l3, l4, l5, l6, l7, l8, some (.int x)] st σ = den mX6_read 174 [l0, l1, l2, l3, l4, l5, l6, l7, l8, some (.int x)] (.int x :: st) σ) ∧
  (∀ (l0 l1 l2 l3 l4 l5 l6 l7 l8 l9 : Option Value) (st : List Value) (σ : dS), den mX6_read 174 [l0, l1, l2, l3, l4, l5, l6, l7, l8, l9] st σ = den mX6_read 175 [l0, l1, l2, l3, l4, l5, l6, l7, l8, l9] (.int (nI 1) :: st) σ) ∧
  (∀ (l0 l1 l2 l3 l4 l5 l6 l7 l8 l9 : Option Value) (x y : Int32) (st : List Value) (σ : dS), den mX6_read 175 [l0, l1, l2, l3, l4, l5, l6, l7, l8, l9] (.int y :: .int x :: st) σ = den mX6_read 176 [l0, l1, l2, l3, l4, l5, l6, l7, l8, l9] (.int (x + y) :: st) σ) ∧
  (∀ (l0 l1 l2 l3 l4 l5 l6 l7 l8 l9 : Option Value) (q : Nat) (i : Int32) (st : List Value) (σ : dS), den mX6_read 176 [l0, l1, l2, l3, l4, l5, l6, l7, l8, l9] (.int i :: .ref q :: st) σ = if q ≤ dN then (dald σ q 0 i).bind (fun v => den mX6_read 177 [l0, l1, l2, l3, l4, l5, l6, l7, l8, l9] (.int v :: st) σ) else none) ∧
  (∀ (l0 l1 l2 l3 l4 l6 l7 l8 l9 : Option Value) (x : Nat) (st : List Value) (σ : dS), den mX6_read 177 [l0, l1, l2, l3, l4, some (.ref x), l6, l7, l8, l9] st σ = den mX6_read 179 [l0, l1, l2, l3, l4, some (.ref x), l6, l7, l8, l9] (.ref x :: st) σ) ∧
  (∀ (l0 l1 l2 l3 l4 l5 l6 l7 l8 l9 : Option Value) (q : Nat) (st : List Value) (σ : dS), den mX6_read 179 [l0, l1, l2, l3, l4, l5, l6, l7, l8, l9] (.ref q :: st) σ = (dget σ q 3 0).bind fun v => den mX6_read 182 [l0, l1, l2, l3, l4, l5, l6, l7, l8, l9] (v :: st) σ) ∧
  (∀ (l0 l1 l2 l3 l4 l5 l6 l7 l8 : Option Value) (x : Int32) (st : List Value) (σ : dS), den mX6_read 182 [l0, l1, l2, l3, l4, l5, l6, l7, l8, some (.int x)] st σ = den mX6_read 184 [l0, l1, l2, l3, l4, l5, l6, l7, l8, some (.int x)] (.int x :: st) σ) ∧
  (∀ (l0 l1 l2 l3 l4 l5 l6 l7 l8 l9 : Option Value) (st : List Value) (σ : dS), den mX6_read 184 [l0, l1, l2, l3, l4, l5, l6, l7, l8, l9] st σ = den mX6_read 185 [l0, l1, l2, l3, l4, l5, l6, l7, l8, l9] (.int (nI 2) :: st) σ) ∧
  (∀ (l0 l1 l2 l3 l4 l5 l6 l7 l8 l9 : Option Value) (x y : Int32) (st : List Value) (σ : dS), den mX6_read 185 [l0, l1, l2, l3, l4, l5, l6, l7, l8, l9] (.int y :: .int x :: st) σ = den mX6_read 186 [l0, l1, l2, l3, l4, l5, l6, l7, l8, l9] (.int (x + y) :: st) σ) ∧
  (∀ (l0 l1 l2 l3 l4 l5 l6 l7 l8 l9 : Option Value) (q : Nat) (i : Int32) (st : List Value) (σ : dS), den mX6_read 186 [l0, l1, l2, l3, l4, l5, l6, l7, l8, l9] (.int i :: .ref q :: st) σ = if q ≤ dN then (dald σ q 0 i).bind (fun v => den mX6_read 187 [l0, l1, l2, l3, l4, l5, l6, l7, l8, l9] (.int v :: st) σ) else none) ∧
  (∀ (l0 l1 l2 l3 l4 l5 l6 l7 l8 l9 : Option Value) (a0 : Int32) (a1 : Int32) (a2 : Int32) (q : Nat) (σ : dS), den mX6_read 187 [l0, l1, l2, l3, l4, l5, l6, l7, l8, l9] [.int a2, .int a1, .int a0, .ref q] σ = if disO σ q 2 = true then ((dcall mX3_change [.ref q, .int a0, .int a1, .int a2] σ).bind fun r => den mX6_read 190 [l0, l1, l2, l3, l4, l5, l6, l7, l8, l9] (r.1.toList ++ []) r.2) else none) ∧
  (∀ (l0 l1 l2 l3 l4 l5 l6 l7 l8 l9 : Option Value) (x : Int32) (st : List Value) (σ : dS), den mX6_read 190 [l0, l1, l2, l3, l4, l5, l6, l7, l8, l9] (.int x :: st) σ = den mX6_read 191 [l0, l1, l2, l3, l4, l5, l6, l7, l8, l9] st σ) ∧
  (∀ (l0 l1 l2 l3 l4 l5 l6 l9 : Option Value) (x : Int32) (y : Int32) (st : List Value) (σ : dS), den mX6_read 191 [l0, l1, l2, l3, l4, l5, l6, some (.int y), some (.int x), l9] st σ = den mX6_read 194 [l0, l1, l2, l3, l4, l5, l6, some (.int y), some (.int (x + nI 1)), l9] st σ) ∧
  (∀ (l0 l1 l2 l3 l4 l5 l6 l7 l8 l9 : Option Value) (st : List Value) (σ : dS), den mX6_read 194 [l0, l1, l2, l3, l4, l5, l6, l7, l8, l9] st σ = den mX6_read 140 [l0, l1, l2, l3, l4, l5, l6, l7, l8, l9] st σ) ∧
  (∀ (l1 l2 l3 l4 l5 l6 l7 l8 l9 : Option Value) (x : Nat) (st : List Value) (σ : dS), den mX6_read 197 [some (.ref x), l1, l2, l3, l4, l5, l6, l7, l8, l9] st σ = den mX6_read 198 [some (.ref x), l1, l2, l3, l4, l5, l6, l7, l8, l9] (.ref x :: st) σ) ∧
  (∀ (l0 l1 l2 l3 l4 l5 l7 l8 l9 : Option Value) (x : Int32) (st : List Value) (σ : dS), den mX6_read 198 [l0, l1, l2, l3, l4, l5, some (.int x), l7, l8, l9] st σ = den mX6_read 200 [l0, l1, l2, l3, l4, l5, some (.int x), l7, l8, l9] (.int x :: st) σ) ∧
  (∀ (l0 l1 l2 l3 l4 l5 l6 l7 l8 l9 : Option Value) (x : Int32) (q : Nat) (st : List Value) (σ : dS), den mX6_read 200 [l0, l1, l2, l3, l4, l5, l6, l7, l8, l9] (.int x :: .ref q :: st) σ = (dput σ q 5 9 (.int x)).bind fun τ => den mX6_read 203 [l0, l1, l2, l3, l4, l5, l6, l7, l8, l9] st τ) ∧
  (∀ (l0 l1 l2 l3 l4 l5 l6 l8 l9 : Option Value) (x : Int32) (st : List Value) (σ : dS), den mX6_read 203 [l0, l1, l2, l3, l4, l5, l6, some (.int x), l8, l9] st σ = den mX6_read 205 [l0, l1, l2, l3, l4, l5, l6, some (.int x), l8, l9] (.int x :: st) σ) ∧
  (∀ (l0 l1 l2 l3 l4 l5 l6 l7 l8 l9 : Option Value) (v : Int32) (σ : dS), den mX6_read 205 [l0, l1, l2, l3, l4, l5, l6, l7, l8, l9] [.int v] σ = some (some (.int v), σ)) :=
  ⟨fun l0 l1 l2 l3 l4 l5 l6 l7 l8 l9 x y st σ => dn_iadd eX6_read dX6_read_152,
  fun l0 l1 l2 l3 l4 l5 l6 l7 l9 x y st σ => dn_istore eX6_read dX6_read_153 rfl,
  fun l1 l2 l3 l4 l5 l6 l7 l8 l9 x st σ => dn_aload_n eX6_read dX6_read_155 rfl,
  fun l0 l1 l2 l3 l4 l5 l6 l7 l8 l9 q st σ => dn_getfield (f := (5, 1, 260)) eX6_read dX6_read_156 (by decide +kernel),
  fun l0 l1 l2 l3 l4 l6 l7 l8 l9 x st σ => dn_aload eX6_read dX6_read_159 rfl,
  fun l0 l1 l2 l3 l4 l5 l6 l7 l8 l9 q st σ => dn_getfield (f := (3, 0, 248)) eX6_read dX6_read_161 (by decide +kernel),
  fun l0 l1 l2 l3 l4 l5 l6 l7 l8 x st σ => dn_iload eX6_read dX6_read_164 rfl,
  fun l0 l1 l2 l3 l4 l5 l6 l7 l8 l9 q i st σ => dn_iaload eX6_read dX6_read_166,
  fun l0 l1 l2 l3 l4 l6 l7 l8 l9 x st σ => dn_aload eX6_read dX6_read_167 rfl,
  fun l0 l1 l2 l3 l4 l5 l6 l7 l8 l9 q st σ => dn_getfield (f := (3, 0, 248)) eX6_read dX6_read_169 (by decide +kernel),
  fun l0 l1 l2 l3 l4 l5 l6 l7 l8 x st σ => dn_iload eX6_read dX6_read_172 rfl,
  fun l0 l1 l2 l3 l4 l5 l6 l7 l8 l9 st σ => dn_iconst eX6_read dX6_read_174 kc_iconst_1,
  fun l0 l1 l2 l3 l4 l5 l6 l7 l8 l9 x y st σ => dn_iadd eX6_read dX6_read_175,
  fun l0 l1 l2 l3 l4 l5 l6 l7 l8 l9 q i st σ => dn_iaload eX6_read dX6_read_176,
  fun l0 l1 l2 l3 l4 l6 l7 l8 l9 x st σ => dn_aload eX6_read dX6_read_177 rfl,
  fun l0 l1 l2 l3 l4 l5 l6 l7 l8 l9 q st σ => dn_getfield (f := (3, 0, 248)) eX6_read dX6_read_179 (by decide +kernel),
  fun l0 l1 l2 l3 l4 l5 l6 l7 l8 x st σ => dn_iload eX6_read dX6_read_182 rfl,
  fun l0 l1 l2 l3 l4 l5 l6 l7 l8 l9 st σ => dn_iconst eX6_read dX6_read_184 kc_iconst_2,
  fun l0 l1 l2 l3 l4 l5 l6 l7 l8 l9 x y st σ => dn_iadd eX6_read dX6_read_185,
  fun l0 l1 l2 l3 l4 l5 l6 l7 l8 l9 q i st σ => dn_iaload eX6_read dX6_read_186,
  fun l0 l1 l2 l3 l4 l5 l6 l7 l8 l9 a0 a1 a2 q σ => rX6_read_187 l0 l1 l2 l3 l4 l5 l6 l7 l8 l9 a0 a1 a2 q σ,
  fun l0 l1 l2 l3 l4 l5 l6 l7 l8 l9 x st σ => dn_pop eX6_read dX6_read_190 rfl,
  fun l0 l1 l2 l3 l4 l5 l6 l9 x y st σ => dn_iinc (v := nI 1) eX6_read dX6_read_191 rfl kc_iconst_1 rfl,
  fun l0 l1 l2 l3 l4 l5 l6 l7 l8 l9 st σ => dn_goto eX6_read dX6_read_194 (by decide),
  fun l1 l2 l3 l4 l5 l6 l7 l8 l9 x st σ => dn_aload_n eX6_read dX6_read_197 rfl,
  fun l0 l1 l2 l3 l4 l5 l7 l8 l9 x st σ => dn_iload eX6_read dX6_read_198 rfl,
  fun l0 l1 l2 l3 l4 l5 l6 l7 l8 l9 x q st σ => dn_putfield (f := (5, 9, 268)) (ty := .int) eX6_read dX6_read_200 (by decide +kernel) (by decide +kernel) rfl,
  fun l0 l1 l2 l3 l4 l5 l6 l8 l9 x st σ => dn_iload eX6_read dX6_read_203 rfl,
  fun l0 l1 l2 l3 l4 l5 l6 l7 l8 l9 v σ => dn_ireturn eX6_read dX6_read_205 rfl⟩
theorem CX6_torn (a0 : Nat) (σ : dS) : dcall mX6_torn [.ref a0] σ = den mX6_torn 0 [some (.ref a0)] [] σ := dcall_den (by decide) rfl
set_option maxRecDepth 20000 in
theorem SX6_torn : (∀ (x : Nat) (st : List Value) (σ : dS), den mX6_torn 0 [some (.ref x)] st σ = den mX6_torn 1 [some (.ref x)] (.ref x :: st) σ) ∧
  (∀ (l0 : Option Value) (q : Nat) (st : List Value) (σ : dS), den mX6_torn 1 [l0] (.ref q :: st) σ = (dget σ q 5 9).bind fun v => den mX6_torn 4 [l0] (v :: st) σ) ∧
  (∀ (l0 : Option Value) (v : Int32) (σ : dS), den mX6_torn 4 [l0] [.int v] σ = some (some (.int v), σ)) :=
  ⟨fun x st σ => dn_aload_n eX6_torn dX6_torn_0 rfl,
  fun l0 q st σ => dn_getfield (f := (5, 9, 268)) eX6_torn dX6_torn_1 (by decide +kernel),
  fun l0 v σ => dn_ireturn eX6_torn dX6_torn_4 rfl⟩
theorem CX6_count (a0 : Nat) (a1 : Int32) (σ : dS) : dcall mX6_count [.ref a0, .int a1] σ = den mX6_count 0 [some (.ref a0), some (.int a1)] [] σ := dcall_den (by decide) rfl
theorem rX6_count_1 (l0 l1 : Option Value) (x : Int32) (st : List Value) (σ : dS) : den mX6_count 1 [l0, l1] (.int x :: st) σ = if x = nI 0 then den mX6_count 40 [l0, l1] st σ else if x = nI 1 then den mX6_count 60 [l0, l1] st σ else if x = nI 2 then den mX6_count 69 [l0, l1] st σ else if x = nI 3 then den mX6_count 77 [l0, l1] st σ else if x = nI 4 then den mX6_count 87 [l0, l1] st σ else if x = nI 5 then den mX6_count 96 [l0, l1] st σ else den mX6_count 105 [l0, l1] st σ := by
  by_cases h0 : x = nI 0
  · rw [if_pos h0, h0]; exact dn_swIn (off := 39) eX6_count dX6_count_1 (by decide +kernel) (by decide +kernel) (by decide)
  rw [if_neg h0]
  by_cases h1 : x = nI 1
  · rw [if_pos h1, h1]; exact dn_swIn (off := 59) eX6_count dX6_count_1 (by decide +kernel) (by decide +kernel) (by decide)
  rw [if_neg h1]
  by_cases h2 : x = nI 2
  · rw [if_pos h2, h2]; exact dn_swIn (off := 68) eX6_count dX6_count_1 (by decide +kernel) (by decide +kernel) (by decide)
  rw [if_neg h2]
  by_cases h3 : x = nI 3
  · rw [if_pos h3, h3]; exact dn_swIn (off := 76) eX6_count dX6_count_1 (by decide +kernel) (by decide +kernel) (by decide)
  rw [if_neg h3]
  by_cases h4 : x = nI 4
  · rw [if_pos h4, h4]; exact dn_swIn (off := 86) eX6_count dX6_count_1 (by decide +kernel) (by decide +kernel) (by decide)
  rw [if_neg h4]
  by_cases h5 : x = nI 5
  · rw [if_pos h5, h5]; exact dn_swIn (off := 95) eX6_count dX6_count_1 (by decide +kernel) (by decide +kernel) (by decide)
  rw [if_neg h5]
  refine dn_swOut eX6_count dX6_count_1 (by decide) ?_
  have g : x.toInt ≠ 0 ∧ x.toInt ≠ 1 ∧ x.toInt ≠ 2 ∧ x.toInt ≠ 3 ∧ x.toInt ≠ 4 ∧ x.toInt ≠ 5 := ⟨sw_ne h0, sw_ne h1, sw_ne h2, sw_ne h3, sw_ne h4, sw_ne h5⟩
  omega
theorem rX6_count_65 (l0 l1 : Option Value) (a0 : Int32) (q : Nat) (σ : dS) : den mX6_count 65 [l0, l1] [.int a0, .ref q] σ = if disO σ q 2 = true then ((dcall mX3_howManyOf [.ref q, .int a0] σ).bind fun r => den mX6_count 68 [l0, l1] (r.1.toList ++ []) r.2) else none := by
  by_cases h : disO σ q 2 = true
  · rw [if_pos h]; exact dn_callV (e := (0, 40, 749)) (as := [.int a0]) (rest := []) eX6_count dX6_count_65 (by decide +kernel) rfl (by decide +kernel) rfl (dcat_le rfl) (dlen_le rfl) rfl h
  · rw [if_neg h]; exact den_noV (e := (0, 40, 749)) (as := [.int a0]) (rest := []) eX6_count dX6_count_65 (by decide +kernel) rfl rfl rfl h
theorem rX6_count_92 (l0 l1 : Option Value) (a0 : Int32) (q : Nat) (σ : dS) : den mX6_count 92 [l0, l1] [.int a0, .ref q] σ = if disO σ q 2 = true then ((dcall mX3_secondsOf [.ref q, .int a0] σ).bind fun r => den mX6_count 95 [l0, l1] (r.1.toList ++ []) r.2) else none := by
  by_cases h : disO σ q 2 = true
  · rw [if_pos h]; exact dn_callV (e := (0, 41, 753)) (as := [.int a0]) (rest := []) eX6_count dX6_count_92 (by decide +kernel) rfl (by decide +kernel) rfl (dcat_le rfl) (dlen_le rfl) rfl h
  · rw [if_neg h]; exact den_noV (e := (0, 41, 753)) (as := [.int a0]) (rest := []) eX6_count dX6_count_92 (by decide +kernel) rfl rfl rfl h
theorem rX6_count_101 (l0 l1 : Option Value) (a0 : Int32) (q : Nat) (σ : dS) : den mX6_count 101 [l0, l1] [.int a0, .ref q] σ = if disO σ q 2 = true then ((dcall mX3_secondsOf [.ref q, .int a0] σ).bind fun r => den mX6_count 104 [l0, l1] (r.1.toList ++ []) r.2) else none := by
  by_cases h : disO σ q 2 = true
  · rw [if_pos h]; exact dn_callV (e := (0, 41, 753)) (as := [.int a0]) (rest := []) eX6_count dX6_count_101 (by decide +kernel) rfl (by decide +kernel) rfl (dcat_le rfl) (dlen_le rfl) rfl h
  · rw [if_neg h]; exact den_noV (e := (0, 41, 753)) (as := [.int a0]) (rest := []) eX6_count dX6_count_101 (by decide +kernel) rfl rfl rfl h
set_option maxRecDepth 20000 in
theorem SX6_count_0 : (∀ (l0 : Option Value) (x : Int32) (st : List Value) (σ : dS), den mX6_count 0 [l0, some (.int x)] st σ = den mX6_count 1 [l0, some (.int x)] (.int x :: st) σ) ∧
  (∀ (l0 l1 : Option Value) (x : Int32) (st : List Value) (σ : dS), den mX6_count 1 [l0, l1] (.int x :: st) σ = if x = nI 0 then den mX6_count 40 [l0, l1] st σ else if x = nI 1 then den mX6_count 60 [l0, l1] st σ else if x = nI 2 then den mX6_count 69 [l0, l1] st σ else if x = nI 3 then den mX6_count 77 [l0, l1] st σ else if x = nI 4 then den mX6_count 87 [l0, l1] st σ else if x = nI 5 then den mX6_count 96 [l0, l1] st σ else den mX6_count 105 [l0, l1] st σ) ∧
  (∀ (l1 : Option Value) (x : Nat) (st : List Value) (σ : dS), den mX6_count 40 [some (.ref x), l1] st σ = den mX6_count 41 [some (.ref x), l1] (.ref x :: st) σ) ∧
  (∀ (l0 l1 : Option Value) (q : Nat) (st : List Value) (σ : dS), den mX6_count 41 [l0, l1] (.ref q :: st) σ = (dget σ q 5 3).bind fun v => den mX6_count 44 [l0, l1] (v :: st) σ) ∧
  (∀ (l0 l1 : Option Value) (st : List Value) (σ : dS), den mX6_count 44 [l0, l1] st σ = den mX6_count 45 [l0, l1] (.int (nI 0) :: st) σ) ∧
  (∀ (l0 l1 : Option Value) (q : Nat) (i : Int32) (st : List Value) (σ : dS), den mX6_count 45 [l0, l1] (.int i :: .ref q :: st) σ = (dbld σ q i).bind fun v => den mX6_count 46 [l0, l1] (.int v :: st) σ) ∧
  (∀ (l0 l1 : Option Value) (a0 : Int32) (σ : dS), den mX6_count 46 [l0, l1] [.int a0] σ = (dcall mX6_oneIf [.int a0] σ).bind fun r => den mX6_count 49 [l0, l1] (r.1.toList ++ []) r.2) ∧
  (∀ (l1 : Option Value) (x : Nat) (st : List Value) (σ : dS), den mX6_count 49 [some (.ref x), l1] st σ = den mX6_count 50 [some (.ref x), l1] (.ref x :: st) σ) ∧
  (∀ (l0 l1 : Option Value) (q : Nat) (st : List Value) (σ : dS), den mX6_count 50 [l0, l1] (.ref q :: st) σ = (dget σ q 5 3).bind fun v => den mX6_count 53 [l0, l1] (v :: st) σ) ∧
  (∀ (l0 l1 : Option Value) (st : List Value) (σ : dS), den mX6_count 53 [l0, l1] st σ = den mX6_count 54 [l0, l1] (.int (nI 1) :: st) σ) ∧
  (∀ (l0 l1 : Option Value) (q : Nat) (i : Int32) (st : List Value) (σ : dS), den mX6_count 54 [l0, l1] (.int i :: .ref q :: st) σ = (dbld σ q i).bind fun v => den mX6_count 55 [l0, l1] (.int v :: st) σ) ∧
  (∀ (l0 l1 : Option Value) (a0 : Int32) (b0 : Int32) (σ : dS), den mX6_count 55 [l0, l1] [.int a0, .int b0] σ = (dcall mX6_oneIf [.int a0] σ).bind fun r => den mX6_count 58 [l0, l1] (r.1.toList ++ [.int b0]) r.2) ∧
  (∀ (l0 l1 : Option Value) (x y : Int32) (st : List Value) (σ : dS), den mX6_count 58 [l0, l1] (.int y :: .int x :: st) σ = den mX6_count 59 [l0, l1] (.int (x + y) :: st) σ) ∧
  (∀ (l0 l1 : Option Value) (v : Int32) (σ : dS), den mX6_count 59 [l0, l1] [.int v] σ = some (some (.int v), σ)) ∧
  (∀ (l1 : Option Value) (x : Nat) (st : List Value) (σ : dS), den mX6_count 60 [some (.ref x), l1] st σ = den mX6_count 61 [some (.ref x), l1] (.ref x :: st) σ) ∧
  (∀ (l0 l1 : Option Value) (q : Nat) (st : List Value) (σ : dS), den mX6_count 61 [l0, l1] (.ref q :: st) σ = (dget σ q 5 1).bind fun v => den mX6_count 64 [l0, l1] (v :: st) σ) ∧
  (∀ (l0 l1 : Option Value) (st : List Value) (σ : dS), den mX6_count 64 [l0, l1] st σ = den mX6_count 65 [l0, l1] (.int (nI 4) :: st) σ) ∧
  (∀ (l0 l1 : Option Value) (a0 : Int32) (q : Nat) (σ : dS), den mX6_count 65 [l0, l1] [.int a0, .ref q] σ = if disO σ q 2 = true then ((dcall mX3_howManyOf [.ref q, .int a0] σ).bind fun r => den mX6_count 68 [l0, l1] (r.1.toList ++ []) r.2) else none) ∧
  (∀ (l0 l1 : Option Value) (v : Int32) (σ : dS), den mX6_count 68 [l0, l1] [.int v] σ = some (some (.int v), σ)) ∧
  (∀ (l1 : Option Value) (x : Nat) (st : List Value) (σ : dS), den mX6_count 69 [some (.ref x), l1] st σ = den mX6_count 70 [some (.ref x), l1] (.ref x :: st) σ) ∧
  (∀ (l0 l1 : Option Value) (q : Nat) (st : List Value) (σ : dS), den mX6_count 70 [l0, l1] (.ref q :: st) σ = (dget σ q 5 0).bind fun v => den mX6_count 73 [l0, l1] (v :: st) σ) ∧
  (∀ (l0 l1 : Option Value) (q : Nat) (st : List Value) (σ : dS), den mX6_count 73 [l0, l1] (.ref q :: st) σ = (dget σ q 4 3).bind fun v => den mX6_count 76 [l0, l1] (v :: st) σ) ∧
  (∀ (l0 l1 : Option Value) (v : Int32) (σ : dS), den mX6_count 76 [l0, l1] [.int v] σ = some (some (.int v), σ)) ∧
  (∀ (l1 : Option Value) (x : Nat) (st : List Value) (σ : dS), den mX6_count 77 [some (.ref x), l1] st σ = den mX6_count 78 [some (.ref x), l1] (.ref x :: st) σ) ∧
  (∀ (l0 l1 : Option Value) (q : Nat) (st : List Value) (σ : dS), den mX6_count 78 [l0, l1] (.ref q :: st) σ = (dget σ q 5 7).bind fun v => den mX6_count 81 [l0, l1] (v :: st) σ) ∧
  (∀ (l0 l1 : Option Value) (st : List Value) (σ : dS), den mX6_count 81 [l0, l1] st σ = den mX6_count 82 [l0, l1] (.int (nI 0) :: st) σ) ∧
  (∀ (l0 l1 : Option Value) (q : Nat) (i : Int32) (st : List Value) (σ : dS), den mX6_count 82 [l0, l1] (.int i :: .ref q :: st) σ = (drld σ q i).bind fun v => den mX6_count 83 [l0, l1] (v :: st) σ) ∧
  (∀ (l0 l1 : Option Value) (q : Nat) (st : List Value) (σ : dS), den mX6_count 83 [l0, l1] (.ref q :: st) σ = (dget σ q 3 2).bind fun v => den mX6_count 86 [l0, l1] (v :: st) σ) ∧
  (∀ (l0 l1 : Option Value) (v : Int32) (σ : dS), den mX6_count 86 [l0, l1] [.int v] σ = some (some (.int v), σ)) ∧
  (∀ (l1 : Option Value) (x : Nat) (st : List Value) (σ : dS), den mX6_count 87 [some (.ref x), l1] st σ = den mX6_count 88 [some (.ref x), l1] (.ref x :: st) σ) ∧
  (∀ (l0 l1 : Option Value) (q : Nat) (st : List Value) (σ : dS), den mX6_count 88 [l0, l1] (.ref q :: st) σ = (dget σ q 5 1).bind fun v => den mX6_count 91 [l0, l1] (v :: st) σ) ∧
  (∀ (l0 l1 : Option Value) (st : List Value) (σ : dS), den mX6_count 91 [l0, l1] st σ = den mX6_count 92 [l0, l1] (.int (nI 0) :: st) σ) ∧
  (∀ (l0 l1 : Option Value) (a0 : Int32) (q : Nat) (σ : dS), den mX6_count 92 [l0, l1] [.int a0, .ref q] σ = if disO σ q 2 = true then ((dcall mX3_secondsOf [.ref q, .int a0] σ).bind fun r => den mX6_count 95 [l0, l1] (r.1.toList ++ []) r.2) else none) ∧
  (∀ (l0 l1 : Option Value) (v : Int32) (σ : dS), den mX6_count 95 [l0, l1] [.int v] σ = some (some (.int v), σ)) ∧
  (∀ (l1 : Option Value) (x : Nat) (st : List Value) (σ : dS), den mX6_count 96 [some (.ref x), l1] st σ = den mX6_count 97 [some (.ref x), l1] (.ref x :: st) σ) ∧
  (∀ (l0 l1 : Option Value) (q : Nat) (st : List Value) (σ : dS), den mX6_count 97 [l0, l1] (.ref q :: st) σ = (dget σ q 5 1).bind fun v => den mX6_count 100 [l0, l1] (v :: st) σ) ∧
  (∀ (l0 l1 : Option Value) (st : List Value) (σ : dS), den mX6_count 100 [l0, l1] st σ = den mX6_count 101 [l0, l1] (.int (nI 5) :: st) σ) ∧
  (∀ (l0 l1 : Option Value) (a0 : Int32) (q : Nat) (σ : dS), den mX6_count 101 [l0, l1] [.int a0, .ref q] σ = if disO σ q 2 = true then ((dcall mX3_secondsOf [.ref q, .int a0] σ).bind fun r => den mX6_count 104 [l0, l1] (r.1.toList ++ []) r.2) else none) ∧
  (∀ (l0 l1 : Option Value) (v : Int32) (σ : dS), den mX6_count 104 [l0, l1] [.int v] σ = some (some (.int v), σ)) ∧
  (∀ (l0 l1 : Option Value) (st : List Value) (σ : dS), den mX6_count 105 [l0, l1] st σ = den mX6_count 106 [l0, l1] (.int ((-1)) :: st) σ) :=
  ⟨fun l0 x st σ => dn_iload_n eX6_count dX6_count_0 rfl,
  fun l0 l1 x st σ => rX6_count_1 l0 l1 x st σ,
  fun l1 x st σ => dn_aload_n eX6_count dX6_count_40 rfl,
  fun l0 l1 q st σ => dn_getfield (f := (5, 3, 262)) eX6_count dX6_count_41 (by decide +kernel),
  fun l0 l1 st σ => dn_iconst eX6_count dX6_count_44 kc_iconst_0,
  fun l0 l1 q i st σ => dn_baload eX6_count dX6_count_45,
  fun l0 l1 a0 σ => dn_callS (e := (1, 9, 530)) (as := [.int a0]) (rest := []) eX6_count dX6_count_46 (by decide +kernel) (Or.inl rfl) (by decide +kernel) rfl (dcat_le rfl) (dlen_le rfl) rfl,
  fun l1 x st σ => dn_aload_n eX6_count dX6_count_49 rfl,
  fun l0 l1 q st σ => dn_getfield (f := (5, 3, 262)) eX6_count dX6_count_50 (by decide +kernel),
  fun l0 l1 st σ => dn_iconst eX6_count dX6_count_53 kc_iconst_1,
  fun l0 l1 q i st σ => dn_baload eX6_count dX6_count_54,
  fun l0 l1 a0 b0 σ => dn_callS (e := (1, 9, 530)) (as := [.int a0]) (rest := [.int b0]) eX6_count dX6_count_55 (by decide +kernel) (Or.inl rfl) (by decide +kernel) rfl (dcat_le rfl) (dlen_le rfl) rfl,
  fun l0 l1 x y st σ => dn_iadd eX6_count dX6_count_58,
  fun l0 l1 v σ => dn_ireturn eX6_count dX6_count_59 rfl,
  fun l1 x st σ => dn_aload_n eX6_count dX6_count_60 rfl,
  fun l0 l1 q st σ => dn_getfield (f := (5, 1, 260)) eX6_count dX6_count_61 (by decide +kernel),
  fun l0 l1 st σ => dn_iconst eX6_count dX6_count_64 kc_iconst_4,
  fun l0 l1 a0 q σ => rX6_count_65 l0 l1 a0 q σ,
  fun l0 l1 v σ => dn_ireturn eX6_count dX6_count_68 rfl,
  fun l1 x st σ => dn_aload_n eX6_count dX6_count_69 rfl,
  fun l0 l1 q st σ => dn_getfield (f := (5, 0, 259)) eX6_count dX6_count_70 (by decide +kernel),
  fun l0 l1 q st σ => dn_getfield (f := (4, 3, 149)) eX6_count dX6_count_73 (by decide +kernel),
  fun l0 l1 v σ => dn_ireturn eX6_count dX6_count_76 rfl,
  fun l1 x st σ => dn_aload_n eX6_count dX6_count_77 rfl,
  fun l0 l1 q st σ => dn_getfield (f := (5, 7, 266)) eX6_count dX6_count_78 (by decide +kernel),
  fun l0 l1 st σ => dn_iconst eX6_count dX6_count_81 kc_iconst_0,
  fun l0 l1 q i st σ => dn_aaload eX6_count dX6_count_82,
  fun l0 l1 q st σ => dn_getfield (f := (3, 2, 251)) eX6_count dX6_count_83 (by decide +kernel),
  fun l0 l1 v σ => dn_ireturn eX6_count dX6_count_86 rfl,
  fun l1 x st σ => dn_aload_n eX6_count dX6_count_87 rfl,
  fun l0 l1 q st σ => dn_getfield (f := (5, 1, 260)) eX6_count dX6_count_88 (by decide +kernel),
  fun l0 l1 st σ => dn_iconst eX6_count dX6_count_91 kc_iconst_0,
  fun l0 l1 a0 q σ => rX6_count_92 l0 l1 a0 q σ,
  fun l0 l1 v σ => dn_ireturn eX6_count dX6_count_95 rfl,
  fun l1 x st σ => dn_aload_n eX6_count dX6_count_96 rfl,
  fun l0 l1 q st σ => dn_getfield (f := (5, 1, 260)) eX6_count dX6_count_97 (by decide +kernel),
  fun l0 l1 st σ => dn_iconst eX6_count dX6_count_100 kc_iconst_5,
  fun l0 l1 a0 q σ => rX6_count_101 l0 l1 a0 q σ,
  fun l0 l1 v σ => dn_ireturn eX6_count dX6_count_104 rfl,
  fun l0 l1 st σ => dn_iconst eX6_count dX6_count_105 kc_iconst_m1⟩
theorem SX6_count_1 : (∀ (l0 l1 : Option Value) (v : Int32) (σ : dS), den mX6_count 106 [l0, l1] [.int v] σ = some (some (.int v), σ)) := fun l0 l1 v σ => dn_ireturn eX6_count dX6_count_106 rfl

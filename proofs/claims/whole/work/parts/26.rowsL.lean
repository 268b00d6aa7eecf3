theorem hL_law_18 (l0 l1 l2 : Option Value) (x : Int32) (st : List Value) (σ : dS) : den mL_law 18 [l0, l1, l2, some (.int x)] st σ = den mL_law 19 [l0, l1, l2, some (.int x)] (.int x :: st) σ := dn_iload_n eL_law dL_law_18 rfl
theorem rL_law_32 (l0 l1 l2 l3 : Option Value) (x : Int32) (st : List Value) (σ : dS) : den mL_law 32 [l0, l1, l2, l3] (.int x :: st) σ = if x = nI 0 then den mL_law 172 [l0, l1, l2, l3] st σ else if x = nI 1 then den mL_law 195 [l0, l1, l2, l3] st σ else if x = nI 2 then den mL_law 218 [l0, l1, l2, l3] st σ else if x = nI 3 then den mL_law 231 [l0, l1, l2, l3] st σ else if x = nI 4 then den mL_law 244 [l0, l1, l2, l3] st σ else if x = nI 5 then den mL_law 267 [l0, l1, l2, l3] st σ else if x = nI 6 then den mL_law 300 [l0, l1, l2, l3] st σ else if x = nI 7 then den mL_law 333 [l0, l1, l2, l3] st σ else if x = nI 8 then den mL_law 366 [l0, l1, l2, l3] st σ else if x = nI 9 then den mL_law 399 [l0, l1, l2, l3] st σ else if x = nI 10 then den mL_law 432 [l0, l1, l2, l3] st σ else if x = nI 11 then den mL_law 485 [l0, l1, l2, l3] st σ else if x = nI 12 then den mL_law 508 [l0, l1, l2, l3] st σ else if x = nI 13 then den mL_law 521 [l0, l1, l2, l3] st σ else if x = nI 14 then den mL_law 564 [l0, l1, l2, l3] st σ else if x = nI 15 then den mL_law 597 [l0, l1, l2, l3] st σ else if x = nI 16 then den mL_law 630 [l0, l1, l2, l3] st σ else if x = nI 17 then den mL_law 654 [l0, l1, l2, l3] st σ else if x = nI 18 then den mL_law 688 [l0, l1, l2, l3] st σ else if x = nI 19 then den mL_law 711 [l0, l1, l2, l3] st σ else if x = nI 20 then den mL_law 734 [l0, l1, l2, l3] st σ else if x = nI 21 then den mL_law 747 [l0, l1, l2, l3] st σ else if x = nI 22 then den mL_law 760 [l0, l1, l2, l3] st σ else if x = nI 23 then den mL_law 803 [l0, l1, l2, l3] st σ else if x = nI 24 then den mL_law 836 [l0, l1, l2, l3] st σ else if x = nI 25 then den mL_law 859 [l0, l1, l2, l3] st σ else if x = nI 26 then den mL_law 882 [l0, l1, l2, l3] st σ else if x = nI 27 then den mL_law 925 [l0, l1, l2, l3] st σ else if x = nI 28 then den mL_law 968 [l0, l1, l2, l3] st σ else if x = nI 29 then den mL_law 1021 [l0, l1, l2, l3] st σ else if x = nI 30 then den mL_law 1034 [l0, l1, l2, l3] st σ else den mL_law 1057 [l0, l1, l2, l3] st σ := by
  by_cases h0 : x = nI 0
  · rw [if_pos h0, h0]; exact dn_swIn (off := 140) eL_law dL_law_32 (by decide +kernel) (by decide +kernel) (by decide)
  rw [if_neg h0]
  by_cases h1 : x = nI 1
  · rw [if_pos h1, h1]; exact dn_swIn (off := 163) eL_law dL_law_32 (by decide +kernel) (by decide +kernel) (by decide)
  rw [if_neg h1]
  by_cases h2 : x = nI 2
  · rw [if_pos h2, h2]; exact dn_swIn (off := 186) eL_law dL_law_32 (by decide +kernel) (by decide +kernel) (by decide)
  rw [if_neg h2]
  by_cases h3 : x = nI 3
  · rw [if_pos h3, h3]; exact dn_swIn (off := 199) eL_law dL_law_32 (by decide +kernel) (by decide +kernel) (by decide)
  rw [if_neg h3]
  by_cases h4 : x = nI 4
  · rw [if_pos h4, h4]; exact dn_swIn (off := 212) eL_law dL_law_32 (by decide +kernel) (by decide +kernel) (by decide)
  rw [if_neg h4]
  by_cases h5 : x = nI 5
  · rw [if_pos h5, h5]; exact dn_swIn (off := 235) eL_law dL_law_32 (by decide +kernel) (by decide +kernel) (by decide)
  rw [if_neg h5]
  by_cases h6 : x = nI 6
  · rw [if_pos h6, h6]; exact dn_swIn (off := 268) eL_law dL_law_32 (by decide +kernel) (by decide +kernel) (by decide)
  rw [if_neg h6]
  by_cases h7 : x = nI 7
  · rw [if_pos h7, h7]; exact dn_swIn (off := 301) eL_law dL_law_32 (by decide +kernel) (by decide +kernel) (by decide)
  rw [if_neg h7]
  by_cases h8 : x = nI 8
  · rw [if_pos h8, h8]; exact dn_swIn (off := 334) eL_law dL_law_32 (by decide +kernel) (by decide +kernel) (by decide)
  rw [if_neg h8]
  by_cases h9 : x = nI 9
  · rw [if_pos h9, h9]; exact dn_swIn (off := 367) eL_law dL_law_32 (by decide +kernel) (by decide +kernel) (by decide)
  rw [if_neg h9]
  by_cases h10 : x = nI 10
  · rw [if_pos h10, h10]; exact dn_swIn (off := 400) eL_law dL_law_32 (by decide +kernel) (by decide +kernel) (by decide)
  rw [if_neg h10]
  by_cases h11 : x = nI 11
  · rw [if_pos h11, h11]; exact dn_swIn (off := 453) eL_law dL_law_32 (by decide +kernel) (by decide +kernel) (by decide)
  rw [if_neg h11]
  by_cases h12 : x = nI 12
  · rw [if_pos h12, h12]; exact dn_swIn (off := 476) eL_law dL_law_32 (by decide +kernel) (by decide +kernel) (by decide)
  rw [if_neg h12]
  by_cases h13 : x = nI 13
  · rw [if_pos h13, h13]; exact dn_swIn (off := 489) eL_law dL_law_32 (by decide +kernel) (by decide +kernel) (by decide)
  rw [if_neg h13]
  by_cases h14 : x = nI 14
  · rw [if_pos h14, h14]; exact dn_swIn (off := 532) eL_law dL_law_32 (by decide +kernel) (by decide +kernel) (by decide)
  rw [if_neg h14]
  by_cases h15 : x = nI 15
  · rw [if_pos h15, h15]; exact dn_swIn (off := 565) eL_law dL_law_32 (by decide +kernel) (by decide +kernel) (by decide)
  rw [if_neg h15]
  by_cases h16 : x = nI 16
  · rw [if_pos h16, h16]; exact dn_swIn (off := 598) eL_law dL_law_32 (by decide +kernel) (by decide +kernel) (by decide)
  rw [if_neg h16]
  by_cases h17 : x = nI 17
  · rw [if_pos h17, h17]; exact dn_swIn (off := 622) eL_law dL_law_32 (by decide +kernel) (by decide +kernel) (by decide)
  rw [if_neg h17]
  by_cases h18 : x = nI 18
  · rw [if_pos h18, h18]; exact dn_swIn (off := 656) eL_law dL_law_32 (by decide +kernel) (by decide +kernel) (by decide)
  rw [if_neg h18]
  by_cases h19 : x = nI 19
  · rw [if_pos h19, h19]; exact dn_swIn (off := 679) eL_law dL_law_32 (by decide +kernel) (by decide +kernel) (by decide)
  rw [if_neg h19]
  by_cases h20 : x = nI 20
  · rw [if_pos h20, h20]; exact dn_swIn (off := 702) eL_law dL_law_32 (by decide +kernel) (by decide +kernel) (by decide)
  rw [if_neg h20]
  by_cases h21 : x = nI 21
  · rw [if_pos h21, h21]; exact dn_swIn (off := 715) eL_law dL_law_32 (by decide +kernel) (by decide +kernel) (by decide)
  rw [if_neg h21]
  by_cases h22 : x = nI 22
  · rw [if_pos h22, h22]; exact dn_swIn (off := 728) eL_law dL_law_32 (by decide +kernel) (by decide +kernel) (by decide)
  rw [if_neg h22]
  by_cases h23 : x = nI 23
  · rw [if_pos h23, h23]; exact dn_swIn (off := 771) eL_law dL_law_32 (by decide +kernel) (by decide +kernel) (by decide)
  rw [if_neg h23]
  by_cases h24 : x = nI 24
  · rw [if_pos h24, h24]; exact dn_swIn (off := 804) eL_law dL_law_32 (by decide +kernel) (by decide +kernel) (by decide)
  rw [if_neg h24]
  by_cases h25 : x = nI 25
  · rw [if_pos h25, h25]; exact dn_swIn (off := 827) eL_law dL_law_32 (by decide +kernel) (by decide +kernel) (by decide)
  rw [if_neg h25]
  by_cases h26 : x = nI 26
  · rw [if_pos h26, h26]; exact dn_swIn (off := 850) eL_law dL_law_32 (by decide +kernel) (by decide +kernel) (by decide)
  rw [if_neg h26]
  by_cases h27 : x = nI 27
  · rw [if_pos h27, h27]; exact dn_swIn (off := 893) eL_law dL_law_32 (by decide +kernel) (by decide +kernel) (by decide)
  rw [if_neg h27]
  by_cases h28 : x = nI 28
  · rw [if_pos h28, h28]; exact dn_swIn (off := 936) eL_law dL_law_32 (by decide +kernel) (by decide +kernel) (by decide)
  rw [if_neg h28]
  by_cases h29 : x = nI 29
  · rw [if_pos h29, h29]; exact dn_swIn (off := 989) eL_law dL_law_32 (by decide +kernel) (by decide +kernel) (by decide)
  rw [if_neg h29]
  by_cases h30 : x = nI 30
  · rw [if_pos h30, h30]; exact dn_swIn (off := 1002) eL_law dL_law_32 (by decide +kernel) (by decide +kernel) (by decide)
  rw [if_neg h30]
  refine dn_swOut eL_law dL_law_32 (by decide) ?_
  have g : x.toInt ≠ 0 ∧ x.toInt ≠ 1 ∧ x.toInt ≠ 2 ∧ x.toInt ≠ 3 ∧ x.toInt ≠ 4 ∧ x.toInt ≠ 5 ∧ x.toInt ≠ 6 ∧ x.toInt ≠ 7 ∧ x.toInt ≠ 8 ∧ x.toInt ≠ 9 ∧ x.toInt ≠ 10 ∧ x.toInt ≠ 11 ∧ x.toInt ≠ 12 ∧ x.toInt ≠ 13 ∧ x.toInt ≠ 14 ∧ x.toInt ≠ 15 ∧ x.toInt ≠ 16 ∧ x.toInt ≠ 17 ∧ x.toInt ≠ 18 ∧ x.toInt ≠ 19 ∧ x.toInt ≠ 20 ∧ x.toInt ≠ 21 ∧ x.toInt ≠ 22 ∧ x.toInt ≠ 23 ∧ x.toInt ≠ 24 ∧ x.toInt ≠ 25 ∧ x.toInt ≠ 26 ∧ x.toInt ≠ 27 ∧ x.toInt ≠ 28 ∧ x.toInt ≠ 29 ∧ x.toInt ≠ 30 := ⟨sw_ne h0, sw_ne h1, sw_ne h2, sw_ne h3, sw_ne h4, sw_ne h5, sw_ne h6, sw_ne h7, sw_ne h8, sw_ne h9, sw_ne h10, sw_ne h11, sw_ne h12, sw_ne h13, sw_ne h14, sw_ne h15, sw_ne h16, sw_ne h17, sw_ne h18, sw_ne h19, sw_ne h20, sw_ne h21, sw_ne h22, sw_ne h23, sw_ne h24, sw_ne h25, sw_ne h26, sw_ne h27, sw_ne h28, sw_ne h29, sw_ne h30⟩
  omega
theorem rL_law_178 (l0 l1 l2 l3 : Option Value) (a0 : Int32) (q : Nat) (σ : dS) : den mL_law 178 [l0, l1, l2, l3] [.int a0, .ref q] σ = if disO σ q 5 = true then ((dcall mX6_feed [.ref q, .int a0] σ).bind fun r => den mL_law 181 [l0, l1, l2, l3] (r.1.toList ++ []) r.2) else none := by
  by_cases h : disO σ q 5 = true
  · rw [if_pos h]; exact dn_callV (e := (0, 68, 290)) (as := [.int a0]) (rest := []) eL_law dL_law_178 (by decide +kernel) rfl (by decide +kernel) rfl (dcat_le rfl) (dlen_le rfl) rfl h
  · rw [if_neg h]; exact den_noV (e := (0, 68, 290)) (as := [.int a0]) (rest := []) eL_law dL_law_178 (by decide +kernel) rfl rfl rfl h
theorem rL_law_187 (l0 l1 l2 l3 : Option Value) (a0 : Int32) (b0 : Int32) (q : Nat) (σ : dS) : den mL_law 187 [l0, l1, l2, l3] [.int a0, .ref q, .int b0] σ = if disO σ q 6 = true then ((dcall mX7_feed [.ref q, .int a0] σ).bind fun r => den mL_law 190 [l0, l1, l2, l3] (r.1.toList ++ [.int b0]) r.2) else none := by
  by_cases h : disO σ q 6 = true
  · rw [if_pos h]; exact dn_callV (e := (0, 106, 874)) (as := [.int a0]) (rest := [.int b0]) eL_law dL_law_187 (by decide +kernel) rfl (by decide +kernel) rfl (dcat_le rfl) (dlen_le rfl) rfl h
  · rw [if_neg h]; exact den_noV (e := (0, 106, 874)) (as := [.int a0]) (rest := [.int b0]) eL_law dL_law_187 (by decide +kernel) rfl rfl rfl h
theorem rL_law_201 (l0 l1 l2 l3 : Option Value) (a0 : Int32) (q : Nat) (σ : dS) : den mL_law 201 [l0, l1, l2, l3] [.int a0, .ref q] σ = if disO σ q 5 = true then ((dcall mX6_end [.ref q, .int a0] σ).bind fun r => den mL_law 204 [l0, l1, l2, l3] (r.1.toList ++ []) r.2) else none := by
  by_cases h : disO σ q 5 = true
  · rw [if_pos h]; exact dn_callV (e := (0, 69, 294)) (as := [.int a0]) (rest := []) eL_law dL_law_201 (by decide +kernel) rfl (by decide +kernel) rfl (dcat_le rfl) (dlen_le rfl) rfl h
  · rw [if_neg h]; exact den_noV (e := (0, 69, 294)) (as := [.int a0]) (rest := []) eL_law dL_law_201 (by decide +kernel) rfl rfl rfl h
theorem rL_law_210 (l0 l1 l2 l3 : Option Value) (a0 : Int32) (b0 : Int32) (q : Nat) (σ : dS) : den mL_law 210 [l0, l1, l2, l3] [.int a0, .ref q, .int b0] σ = if disO σ q 6 = true then ((dcall mX7_end [.ref q, .int a0] σ).bind fun r => den mL_law 213 [l0, l1, l2, l3] (r.1.toList ++ [.int b0]) r.2) else none := by
  by_cases h : disO σ q 6 = true
  · rw [if_pos h]; exact dn_callV (e := (0, 107, 882)) (as := [.int a0]) (rest := [.int b0]) eL_law dL_law_210 (by decide +kernel) rfl (by decide +kernel) rfl (dcat_le rfl) (dlen_le rfl) rfl h
  · rw [if_neg h]; exact den_noV (e := (0, 107, 882)) (as := [.int a0]) (rest := [.int b0]) eL_law dL_law_210 (by decide +kernel) rfl rfl rfl h
theorem rL_law_219 (l0 l1 l2 l3 : Option Value) (q : Nat) (σ : dS) : den mL_law 219 [l0, l1, l2, l3] [.ref q] σ = if disO σ q 5 = true then ((dcall mX6_text [.ref q] σ).bind fun r => den mL_law 222 [l0, l1, l2, l3] (r.1.toList ++ []) r.2) else none := by
  by_cases h : disO σ q 5 = true
  · rw [if_pos h]; exact dn_callV (e := (0, 70, 298)) (as := []) (rest := []) eL_law dL_law_219 (by decide +kernel) rfl (by decide +kernel) rfl (dcat_le rfl) (dlen_le rfl) rfl h
  · rw [if_neg h]; exact den_noV (e := (0, 70, 298)) (as := []) (rest := []) eL_law dL_law_219 (by decide +kernel) rfl rfl rfl h
theorem rL_law_223 (l0 l1 l2 l3 : Option Value) (b0 : Int32) (q : Nat) (σ : dS) : den mL_law 223 [l0, l1, l2, l3] [.ref q, .int b0] σ = if disO σ q 6 = true then ((dcall mX7_text [.ref q] σ).bind fun r => den mL_law 226 [l0, l1, l2, l3] (r.1.toList ++ [.int b0]) r.2) else none := by
  by_cases h : disO σ q 6 = true
  · rw [if_pos h]; exact dn_callV (e := (0, 118, 886)) (as := []) (rest := [.int b0]) eL_law dL_law_223 (by decide +kernel) rfl (by decide +kernel) rfl (dcat_le rfl) (dlen_le rfl) rfl h
  · rw [if_neg h]; exact den_noV (e := (0, 118, 886)) (as := []) (rest := [.int b0]) eL_law dL_law_223 (by decide +kernel) rfl rfl rfl h
theorem rL_law_232 (l0 l1 l2 l3 : Option Value) (q : Nat) (σ : dS) : den mL_law 232 [l0, l1, l2, l3] [.ref q] σ = if disO σ q 5 = true then ((dcall mX6_fault [.ref q] σ).bind fun r => den mL_law 235 [l0, l1, l2, l3] (r.1.toList ++ []) r.2) else none := by
  by_cases h : disO σ q 5 = true
  · rw [if_pos h]; exact dn_callV (e := (0, 71, 426)) (as := []) (rest := []) eL_law dL_law_232 (by decide +kernel) rfl (by decide +kernel) rfl (dcat_le rfl) (dlen_le rfl) rfl h
  · rw [if_neg h]; exact den_noV (e := (0, 71, 426)) (as := []) (rest := []) eL_law dL_law_232 (by decide +kernel) rfl rfl rfl h
theorem rL_law_236 (l0 l1 l2 l3 : Option Value) (b0 : Int32) (q : Nat) (σ : dS) : den mL_law 236 [l0, l1, l2, l3] [.ref q, .int b0] σ = if disO σ q 6 = true then ((dcall mX7_fault [.ref q] σ).bind fun r => den mL_law 239 [l0, l1, l2, l3] (r.1.toList ++ [.int b0]) r.2) else none := by
  by_cases h : disO σ q 6 = true
  · rw [if_pos h]; exact dn_callV (e := (0, 119, 935)) (as := []) (rest := [.int b0]) eL_law dL_law_236 (by decide +kernel) rfl (by decide +kernel) rfl (dcat_le rfl) (dlen_le rfl) rfl h
  · rw [if_neg h]; exact den_noV (e := (0, 119, 935)) (as := []) (rest := [.int b0]) eL_law dL_law_236 (by decide +kernel) rfl rfl rfl h
theorem rL_law_250 (l0 l1 l2 l3 : Option Value) (a0 : Int32) (q : Nat) (σ : dS) : den mL_law 250 [l0, l1, l2, l3] [.int a0, .ref q] σ = if disO σ q 5 = true then ((dcall mX6_rule [.ref q, .int a0] σ).bind fun r => den mL_law 253 [l0, l1, l2, l3] (r.1.toList ++ []) r.2) else none := by
  by_cases h : disO σ q 5 = true
  · rw [if_pos h]; exact dn_callV (e := (0, 73, 430)) (as := [.int a0]) (rest := []) eL_law dL_law_250 (by decide +kernel) rfl (by decide +kernel) rfl (dcat_le rfl) (dlen_le rfl) rfl h
  · rw [if_neg h]; exact den_noV (e := (0, 73, 430)) (as := [.int a0]) (rest := []) eL_law dL_law_250 (by decide +kernel) rfl rfl rfl h
theorem rL_law_259 (l0 l1 l2 l3 : Option Value) (a0 : Int32) (b0 : Int32) (q : Nat) (σ : dS) : den mL_law 259 [l0, l1, l2, l3] [.int a0, .ref q, .int b0] σ = if disO σ q 6 = true then ((dcall mX7_rule [.ref q, .int a0] σ).bind fun r => den mL_law 262 [l0, l1, l2, l3] (r.1.toList ++ [.int b0]) r.2) else none := by
  by_cases h : disO σ q 6 = true
  · rw [if_pos h]; exact dn_callV (e := (0, 138, 939)) (as := [.int a0]) (rest := [.int b0]) eL_law dL_law_259 (by decide +kernel) rfl (by decide +kernel) rfl (dcat_le rfl) (dlen_le rfl) rfl h
  · rw [if_neg h]; exact den_noV (e := (0, 138, 939)) (as := [.int a0]) (rest := [.int b0]) eL_law dL_law_259 (by decide +kernel) rfl rfl rfl h
theorem rL_law_278 (l0 l1 l2 l3 : Option Value) (a0 : Int32) (a1 : Int32) (q : Nat) (σ : dS) : den mL_law 278 [l0, l1, l2, l3] [.int a1, .int a0, .ref q] σ = if disO σ q 5 = true then ((dcall mX6_code [.ref q, .int a0, .int a1] σ).bind fun r => den mL_law 281 [l0, l1, l2, l3] (r.1.toList ++ []) r.2) else none := by
  by_cases h : disO σ q 5 = true
  · rw [if_pos h]; exact dn_callV (e := (0, 74, 490)) (as := [.int a0, .int a1]) (rest := []) eL_law dL_law_278 (by decide +kernel) rfl (by decide +kernel) rfl (dcat_le rfl) (dlen_le rfl) rfl h
  · rw [if_neg h]; exact den_noV (e := (0, 74, 490)) (as := [.int a0, .int a1]) (rest := []) eL_law dL_law_278 (by decide +kernel) rfl rfl rfl h
theorem rL_law_292 (l0 l1 l2 l3 : Option Value) (a0 : Int32) (a1 : Int32) (b0 : Int32) (q : Nat) (σ : dS) : den mL_law 292 [l0, l1, l2, l3] [.int a1, .int a0, .ref q, .int b0] σ = if disO σ q 6 = true then ((dcall mX7_code [.ref q, .int a0, .int a1] σ).bind fun r => den mL_law 295 [l0, l1, l2, l3] (r.1.toList ++ [.int b0]) r.2) else none := by
  by_cases h : disO σ q 6 = true
  · rw [if_pos h]; exact dn_callV (e := (0, 139, 1004)) (as := [.int a0, .int a1]) (rest := [.int b0]) eL_law dL_law_292 (by decide +kernel) rfl (by decide +kernel) rfl (dcat_le rfl) (dlen_le rfl) rfl h
  · rw [if_neg h]; exact den_noV (e := (0, 139, 1004)) (as := [.int a0, .int a1]) (rest := [.int b0]) eL_law dL_law_292 (by decide +kernel) rfl rfl rfl h
theorem rL_law_311 (l0 l1 l2 l3 : Option Value) (a0 : Int32) (a1 : Int32) (q : Nat) (σ : dS) : den mL_law 311 [l0, l1, l2, l3] [.int a1, .int a0, .ref q] σ = if disO σ q 5 = true then ((dcall mX6_guard [.ref q, .int a0, .int a1] σ).bind fun r => den mL_law 314 [l0, l1, l2, l3] (r.1.toList ++ []) r.2) else none := by
  by_cases h : disO σ q 5 = true
  · rw [if_pos h]; exact dn_callV (e := (0, 75, 506)) (as := [.int a0, .int a1]) (rest := []) eL_law dL_law_311 (by decide +kernel) rfl (by decide +kernel) rfl (dcat_le rfl) (dlen_le rfl) rfl h
  · rw [if_neg h]; exact den_noV (e := (0, 75, 506)) (as := [.int a0, .int a1]) (rest := []) eL_law dL_law_311 (by decide +kernel) rfl rfl rfl h
theorem rL_law_325 (l0 l1 l2 l3 : Option Value) (a0 : Int32) (a1 : Int32) (b0 : Int32) (q : Nat) (σ : dS) : den mL_law 325 [l0, l1, l2, l3] [.int a1, .int a0, .ref q, .int b0] σ = if disO σ q 6 = true then ((dcall mX7_guard [.ref q, .int a0, .int a1] σ).bind fun r => den mL_law 328 [l0, l1, l2, l3] (r.1.toList ++ [.int b0]) r.2) else none := by
  by_cases h : disO σ q 6 = true
  · rw [if_pos h]; exact dn_callV (e := (0, 141, 1012)) (as := [.int a0, .int a1]) (rest := [.int b0]) eL_law dL_law_325 (by decide +kernel) rfl (by decide +kernel) rfl (dcat_le rfl) (dlen_le rfl) rfl h
  · rw [if_neg h]; exact den_noV (e := (0, 141, 1012)) (as := [.int a0, .int a1]) (rest := [.int b0]) eL_law dL_law_325 (by decide +kernel) rfl rfl rfl h
theorem rL_law_344 (l0 l1 l2 l3 : Option Value) (a0 : Int32) (a1 : Int32) (q : Nat) (σ : dS) : den mL_law 344 [l0, l1, l2, l3] [.int a1, .int a0, .ref q] σ = if disO σ q 5 = true then ((dcall mX6_within [.ref q, .int a0, .int a1] σ).bind fun r => den mL_law 347 [l0, l1, l2, l3] (r.1.toList ++ []) r.2) else none := by
  by_cases h : disO σ q 5 = true
  · rw [if_pos h]; exact dn_callV (e := (0, 76, 522)) (as := [.int a0, .int a1]) (rest := []) eL_law dL_law_344 (by decide +kernel) rfl (by decide +kernel) rfl (dcat_le rfl) (dlen_le rfl) rfl h
  · rw [if_neg h]; exact den_noV (e := (0, 76, 522)) (as := [.int a0, .int a1]) (rest := []) eL_law dL_law_344 (by decide +kernel) rfl rfl rfl h
theorem rL_law_358 (l0 l1 l2 l3 : Option Value) (a0 : Int32) (a1 : Int32) (b0 : Int32) (q : Nat) (σ : dS) : den mL_law 358 [l0, l1, l2, l3] [.int a1, .int a0, .ref q, .int b0] σ = if disO σ q 6 = true then ((dcall mX7_within [.ref q, .int a0, .int a1] σ).bind fun r => den mL_law 361 [l0, l1, l2, l3] (r.1.toList ++ [.int b0]) r.2) else none := by
  by_cases h : disO σ q 6 = true
  · rw [if_pos h]; exact dn_callV (e := (0, 142, 1024)) (as := [.int a0, .int a1]) (rest := [.int b0]) eL_law dL_law_358 (by decide +kernel) rfl (by decide +kernel) rfl (dcat_le rfl) (dlen_le rfl) rfl h
  · rw [if_neg h]; exact den_noV (e := (0, 142, 1024)) (as := [.int a0, .int a1]) (rest := [.int b0]) eL_law dL_law_358 (by decide +kernel) rfl rfl rfl h
theorem rL_law_377 (l0 l1 l2 l3 : Option Value) (a0 : Int32) (a1 : Int32) (q : Nat) (σ : dS) : den mL_law 377 [l0, l1, l2, l3] [.int a1, .int a0, .ref q] σ = if disO σ q 5 = true then ((dcall mX6_apart [.ref q, .int a0, .int a1] σ).bind fun r => den mL_law 380 [l0, l1, l2, l3] (r.1.toList ++ []) r.2) else none := by
  by_cases h : disO σ q 5 = true
  · rw [if_pos h]; exact dn_callV (e := (0, 77, 531)) (as := [.int a0, .int a1]) (rest := []) eL_law dL_law_377 (by decide +kernel) rfl (by decide +kernel) rfl (dcat_le rfl) (dlen_le rfl) rfl h
  · rw [if_neg h]; exact den_noV (e := (0, 77, 531)) (as := [.int a0, .int a1]) (rest := []) eL_law dL_law_377 (by decide +kernel) rfl rfl rfl h
theorem rL_law_391 (l0 l1 l2 l3 : Option Value) (a0 : Int32) (a1 : Int32) (b0 : Int32) (q : Nat) (σ : dS) : den mL_law 391 [l0, l1, l2, l3] [.int a1, .int a0, .ref q, .int b0] σ = if disO σ q 6 = true then ((dcall mX7_apart [.ref q, .int a0, .int a1] σ).bind fun r => den mL_law 394 [l0, l1, l2, l3] (r.1.toList ++ [.int b0]) r.2) else none := by
  by_cases h : disO σ q 6 = true
  · rw [if_pos h]; exact dn_callV (e := (0, 144, 1028)) (as := [.int a0, .int a1]) (rest := [.int b0]) eL_law dL_law_391 (by decide +kernel) rfl (by decide +kernel) rfl (dcat_le rfl) (dlen_le rfl) rfl h
  · rw [if_neg h]; exact den_noV (e := (0, 144, 1028)) (as := [.int a0, .int a1]) (rest := [.int b0]) eL_law dL_law_391 (by decide +kernel) rfl rfl rfl h
theorem rL_law_410 (l0 l1 l2 l3 : Option Value) (a0 : Int32) (a1 : Int32) (q : Nat) (σ : dS) : den mL_law 410 [l0, l1, l2, l3] [.int a1, .int a0, .ref q] σ = if disO σ q 5 = true then ((dcall mX6_cover [.ref q, .int a0, .int a1] σ).bind fun r => den mL_law 413 [l0, l1, l2, l3] (r.1.toList ++ []) r.2) else none := by
  by_cases h : disO σ q 5 = true
  · rw [if_pos h]; exact dn_callV (e := (0, 78, 545)) (as := [.int a0, .int a1]) (rest := []) eL_law dL_law_410 (by decide +kernel) rfl (by decide +kernel) rfl (dcat_le rfl) (dlen_le rfl) rfl h
  · rw [if_neg h]; exact den_noV (e := (0, 78, 545)) (as := [.int a0, .int a1]) (rest := []) eL_law dL_law_410 (by decide +kernel) rfl rfl rfl h
theorem rL_law_424 (l0 l1 l2 l3 : Option Value) (a0 : Int32) (a1 : Int32) (b0 : Int32) (q : Nat) (σ : dS) : den mL_law 424 [l0, l1, l2, l3] [.int a1, .int a0, .ref q, .int b0] σ = if disO σ q 6 = true then ((dcall mX7_cover [.ref q, .int a0, .int a1] σ).bind fun r => den mL_law 427 [l0, l1, l2, l3] (r.1.toList ++ [.int b0]) r.2) else none := by
  by_cases h : disO σ q 6 = true
  · rw [if_pos h]; exact dn_callV (e := (0, 145, 1036)) (as := [.int a0, .int a1]) (rest := [.int b0]) eL_law dL_law_424 (by decide +kernel) rfl (by decide +kernel) rfl (dcat_le rfl) (dlen_le rfl) rfl h
  · rw [if_neg h]; exact den_noV (e := (0, 145, 1036)) (as := [.int a0, .int a1]) (rest := [.int b0]) eL_law dL_law_424 (by decide +kernel) rfl rfl rfl h
theorem rL_law_453 (l0 l1 l2 l3 : Option Value) (a0 : Int32) (a1 : Int32) (a2 : Int32) (a3 : Int32) (q : Nat) (σ : dS) : den mL_law 453 [l0, l1, l2, l3] [.int a3, .int a2, .int a1, .int a0, .ref q] σ = if disO σ q 5 = true then ((dcall mX6_run [.ref q, .int a0, .int a1, .int a2, .int a3] σ).bind fun r => den mL_law 456 [l0, l1, l2, l3] (r.1.toList ++ []) r.2) else none := by
  by_cases h : disO σ q 5 = true
  · rw [if_pos h]; exact dn_callV (e := (0, 79, 553)) (as := [.int a0, .int a1, .int a2, .int a3]) (rest := []) eL_law dL_law_453 (by decide +kernel) rfl (by decide +kernel) rfl (dcat_le rfl) (dlen_le rfl) rfl h
  · rw [if_neg h]; exact den_noV (e := (0, 79, 553)) (as := [.int a0, .int a1, .int a2, .int a3]) (rest := []) eL_law dL_law_453 (by decide +kernel) rfl rfl rfl h
theorem rL_law_477 (l0 l1 l2 l3 : Option Value) (a0 : Int32) (a1 : Int32) (a2 : Int32) (a3 : Int32) (b0 : Int32) (q : Nat) (σ : dS) : den mL_law 477 [l0, l1, l2, l3] [.int a3, .int a2, .int a1, .int a0, .ref q, .int b0] σ = if disO σ q 6 = true then ((dcall mX7_run [.ref q, .int a0, .int a1, .int a2, .int a3] σ).bind fun r => den mL_law 480 [l0, l1, l2, l3] (r.1.toList ++ [.int b0]) r.2) else none := by
  by_cases h : disO σ q 6 = true
  · rw [if_pos h]; exact dn_callV (e := (0, 151, 1040)) (as := [.int a0, .int a1, .int a2, .int a3]) (rest := [.int b0]) eL_law dL_law_477 (by decide +kernel) rfl (by decide +kernel) rfl (dcat_le rfl) (dlen_le rfl) rfl h
  · rw [if_neg h]; exact den_noV (e := (0, 151, 1040)) (as := [.int a0, .int a1, .int a2, .int a3]) (rest := [.int b0]) eL_law dL_law_477 (by decide +kernel) rfl rfl rfl h
theorem rL_law_491 (l0 l1 l2 l3 : Option Value) (a0 : Int32) (q : Nat) (σ : dS) : den mL_law 491 [l0, l1, l2, l3] [.int a0, .ref q] σ = if disO σ q 5 = true then ((dcall mX6_value [.ref q, .int a0] σ).bind fun r => den mL_law 494 [l0, l1, l2, l3] (r.1.toList ++ []) r.2) else none := by
  by_cases h : disO σ q 5 = true
  · rw [if_pos h]; exact dn_callV (e := (0, 80, 577)) (as := [.int a0]) (rest := []) eL_law dL_law_491 (by decide +kernel) rfl (by decide +kernel) rfl (dcat_le rfl) (dlen_le rfl) rfl h
  · rw [if_neg h]; exact den_noV (e := (0, 80, 577)) (as := [.int a0]) (rest := []) eL_law dL_law_491 (by decide +kernel) rfl rfl rfl h
theorem rL_law_500 (l0 l1 l2 l3 : Option Value) (a0 : Int32) (b0 : Int32) (q : Nat) (σ : dS) : den mL_law 500 [l0, l1, l2, l3] [.int a0, .ref q, .int b0] σ = if disO σ q 6 = true then ((dcall mX7_value [.ref q, .int a0] σ).bind fun r => den mL_law 503 [l0, l1, l2, l3] (r.1.toList ++ [.int b0]) r.2) else none := by
  by_cases h : disO σ q 6 = true
  · rw [if_pos h]; exact dn_callV (e := (0, 152, 1064)) (as := [.int a0]) (rest := [.int b0]) eL_law dL_law_500 (by decide +kernel) rfl (by decide +kernel) rfl (dcat_le rfl) (dlen_le rfl) rfl h
  · rw [if_neg h]; exact den_noV (e := (0, 152, 1064)) (as := [.int a0]) (rest := [.int b0]) eL_law dL_law_500 (by decide +kernel) rfl rfl rfl h
theorem rL_law_509 (l0 l1 l2 l3 : Option Value) (q : Nat) (σ : dS) : den mL_law 509 [l0, l1, l2, l3] [.ref q] σ = if disO σ q 5 = true then ((dcall mX6_spent [.ref q] σ).bind fun r => den mL_law 512 [l0, l1, l2, l3] (r.1.toList ++ []) r.2) else none := by
  by_cases h : disO σ q 5 = true
  · rw [if_pos h]; exact dn_callV (e := (0, 81, 581)) (as := []) (rest := []) eL_law dL_law_509 (by decide +kernel) rfl (by decide +kernel) rfl (dcat_le rfl) (dlen_le rfl) rfl h
  · rw [if_neg h]; exact den_noV (e := (0, 81, 581)) (as := []) (rest := []) eL_law dL_law_509 (by decide +kernel) rfl rfl rfl h
theorem rL_law_513 (l0 l1 l2 l3 : Option Value) (b0 : Int32) (q : Nat) (σ : dS) : den mL_law 513 [l0, l1, l2, l3] [.ref q, .int b0] σ = if disO σ q 6 = true then ((dcall mX7_spent [.ref q] σ).bind fun r => den mL_law 516 [l0, l1, l2, l3] (r.1.toList ++ [.int b0]) r.2) else none := by
  by_cases h : disO σ q 6 = true
  · rw [if_pos h]; exact dn_callV (e := (0, 153, 1069)) (as := []) (rest := [.int b0]) eL_law dL_law_513 (by decide +kernel) rfl (by decide +kernel) rfl (dcat_le rfl) (dlen_le rfl) rfl h
  · rw [if_neg h]; exact den_noV (e := (0, 153, 1069)) (as := []) (rest := [.int b0]) eL_law dL_law_513 (by decide +kernel) rfl rfl rfl h
theorem rL_law_537 (l0 l1 l2 l3 : Option Value) (a0 : Int32) (a1 : Int32) (a2 : Int32) (q : Nat) (σ : dS) : den mL_law 537 [l0, l1, l2, l3] [.int a2, .int a1, .int a0, .ref q] σ = if disO σ q 5 = true then ((dcall mX6_runs [.ref q, .int a0, .int a1, .int a2] σ).bind fun r => den mL_law 540 [l0, l1, l2, l3] (r.1.toList ++ []) r.2) else none := by
  by_cases h : disO σ q 5 = true
  · rw [if_pos h]; exact dn_callV (e := (0, 82, 585)) (as := [.int a0, .int a1, .int a2]) (rest := []) eL_law dL_law_537 (by decide +kernel) rfl (by decide +kernel) rfl (dcat_le rfl) (dlen_le rfl) rfl h
  · rw [if_neg h]; exact den_noV (e := (0, 82, 585)) (as := [.int a0, .int a1, .int a2]) (rest := []) eL_law dL_law_537 (by decide +kernel) rfl rfl rfl h
theorem rL_law_556 (l0 l1 l2 l3 : Option Value) (a0 : Int32) (a1 : Int32) (a2 : Int32) (b0 : Int32) (q : Nat) (σ : dS) : den mL_law 556 [l0, l1, l2, l3] [.int a2, .int a1, .int a0, .ref q, .int b0] σ = if disO σ q 6 = true then ((dcall mX7_runs [.ref q, .int a0, .int a1, .int a2] σ).bind fun r => den mL_law 559 [l0, l1, l2, l3] (r.1.toList ++ [.int b0]) r.2) else none := by
  by_cases h : disO σ q 6 = true
  · rw [if_pos h]; exact dn_callV (e := (0, 155, 1073)) (as := [.int a0, .int a1, .int a2]) (rest := [.int b0]) eL_law dL_law_556 (by decide +kernel) rfl (by decide +kernel) rfl (dcat_le rfl) (dlen_le rfl) rfl h
  · rw [if_neg h]; exact den_noV (e := (0, 155, 1073)) (as := [.int a0, .int a1, .int a2]) (rest := [.int b0]) eL_law dL_law_556 (by decide +kernel) rfl rfl rfl h
theorem rL_law_575 (l0 l1 l2 l3 : Option Value) (a0 : Int32) (a1 : Int32) (q : Nat) (σ : dS) : den mL_law 575 [l0, l1, l2, l3] [.int a1, .int a0, .ref q] σ = if disO σ q 5 = true then ((dcall mX6_wish [.ref q, .int a0, .int a1] σ).bind fun r => den mL_law 578 [l0, l1, l2, l3] (r.1.toList ++ []) r.2) else none := by
  by_cases h : disO σ q 5 = true
  · rw [if_pos h]; exact dn_callV (e := (0, 83, 594)) (as := [.int a0, .int a1]) (rest := []) eL_law dL_law_575 (by decide +kernel) rfl (by decide +kernel) rfl (dcat_le rfl) (dlen_le rfl) rfl h
  · rw [if_neg h]; exact den_noV (e := (0, 83, 594)) (as := [.int a0, .int a1]) (rest := []) eL_law dL_law_575 (by decide +kernel) rfl rfl rfl h
theorem rL_law_589 (l0 l1 l2 l3 : Option Value) (a0 : Int32) (a1 : Int32) (b0 : Int32) (q : Nat) (σ : dS) : den mL_law 589 [l0, l1, l2, l3] [.int a1, .int a0, .ref q, .int b0] σ = if disO σ q 6 = true then ((dcall mX7_wish [.ref q, .int a0, .int a1] σ).bind fun r => den mL_law 592 [l0, l1, l2, l3] (r.1.toList ++ [.int b0]) r.2) else none := by
  by_cases h : disO σ q 6 = true
  · rw [if_pos h]; exact dn_callV (e := (0, 156, 1086)) (as := [.int a0, .int a1]) (rest := [.int b0]) eL_law dL_law_589 (by decide +kernel) rfl (by decide +kernel) rfl (dcat_le rfl) (dlen_le rfl) rfl h
  · rw [if_neg h]; exact den_noV (e := (0, 156, 1086)) (as := [.int a0, .int a1]) (rest := [.int b0]) eL_law dL_law_589 (by decide +kernel) rfl rfl rfl h
theorem rL_law_608 (l0 l1 l2 l3 : Option Value) (a0 : Int32) (a1 : Int32) (q : Nat) (σ : dS) : den mL_law 608 [l0, l1, l2, l3] [.int a1, .int a0, .ref q] σ = if disO σ q 5 = true then ((dcall mX6_want [.ref q, .int a0, .int a1] σ).bind fun r => den mL_law 611 [l0, l1, l2, l3] (r.1.toList ++ []) r.2) else none := by
  by_cases h : disO σ q 5 = true
  · rw [if_pos h]; exact dn_callV (e := (0, 84, 602)) (as := [.int a0, .int a1]) (rest := []) eL_law dL_law_608 (by decide +kernel) rfl (by decide +kernel) rfl (dcat_le rfl) (dlen_le rfl) rfl h
  · rw [if_neg h]; exact den_noV (e := (0, 84, 602)) (as := [.int a0, .int a1]) (rest := []) eL_law dL_law_608 (by decide +kernel) rfl rfl rfl h
theorem rL_law_622 (l0 l1 l2 l3 : Option Value) (a0 : Int32) (a1 : Int32) (b0 : Int32) (q : Nat) (σ : dS) : den mL_law 622 [l0, l1, l2, l3] [.int a1, .int a0, .ref q, .int b0] σ = if disO σ q 6 = true then ((dcall mX7_want [.ref q, .int a0, .int a1] σ).bind fun r => den mL_law 625 [l0, l1, l2, l3] (r.1.toList ++ [.int b0]) r.2) else none := by
  by_cases h : disO σ q 6 = true
  · rw [if_pos h]; exact dn_callV (e := (0, 158, 1094)) (as := [.int a0, .int a1]) (rest := [.int b0]) eL_law dL_law_622 (by decide +kernel) rfl (by decide +kernel) rfl (dcat_le rfl) (dlen_le rfl) rfl h
  · rw [if_neg h]; exact den_noV (e := (0, 158, 1094)) (as := [.int a0, .int a1]) (rest := [.int b0]) eL_law dL_law_622 (by decide +kernel) rfl rfl rfl h
theorem rL_law_636 (l0 l1 l2 l3 : Option Value) (a0 : Int32) (q : Nat) (σ : dS) : den mL_law 636 [l0, l1, l2, l3] [.int a0, .ref q] σ = if disO σ q 5 = true then ((dcall mX6_mean [.ref q, .int a0] σ).bind fun r => den mL_law 639 [l0, l1, l2, l3] (r.1.toList ++ []) r.2) else none := by
  by_cases h : disO σ q 5 = true
  · rw [if_pos h]; exact dn_callV (e := (0, 87, 606)) (as := [.int a0]) (rest := []) eL_law dL_law_636 (by decide +kernel) rfl (by decide +kernel) rfl (dcat_le rfl) (dlen_le rfl) rfl h
  · rw [if_neg h]; exact den_noV (e := (0, 87, 606)) (as := [.int a0]) (rest := []) eL_law dL_law_636 (by decide +kernel) rfl rfl rfl h
theorem rL_law_645 (l0 l1 l2 l3 : Option Value) (a0 : Int32) (b0 : Int64) (q : Nat) (σ : dS) : den mL_law 645 [l0, l1, l2, l3] [.int a0, .ref q, .long b0] σ = if disO σ q 6 = true then ((dcall mX7_mean [.ref q, .int a0] σ).bind fun r => den mL_law 648 [l0, l1, l2, l3] (r.1.toList ++ [.long b0]) r.2) else none := by
  by_cases h : disO σ q 6 = true
  · rw [if_pos h]; exact dn_callV (e := (0, 160, 1103)) (as := [.int a0]) (rest := [.long b0]) eL_law dL_law_645 (by decide +kernel) rfl (by decide +kernel) rfl (dcat_le rfl) (dlen_le rfl) rfl h
  · rw [if_neg h]; exact den_noV (e := (0, 160, 1103)) (as := [.int a0]) (rest := [.long b0]) eL_law dL_law_645 (by decide +kernel) rfl rfl rfl h
theorem rL_law_665 (l0 l1 l2 l3 : Option Value) (a0 : Int32) (a1 : Int32) (q : Nat) (σ : dS) : den mL_law 665 [l0, l1, l2, l3] [.int a1, .int a0, .ref q] σ = if disO σ q 5 = true then ((dcall mX6_odds [.ref q, .int a0, .int a1] σ).bind fun r => den mL_law 668 [l0, l1, l2, l3] (r.1.toList ++ []) r.2) else none := by
  by_cases h : disO σ q 5 = true
  · rw [if_pos h]; exact dn_callV (e := (0, 88, 618)) (as := [.int a0, .int a1]) (rest := []) eL_law dL_law_665 (by decide +kernel) rfl (by decide +kernel) rfl (dcat_le rfl) (dlen_le rfl) rfl h
  · rw [if_neg h]; exact den_noV (e := (0, 88, 618)) (as := [.int a0, .int a1]) (rest := []) eL_law dL_law_665 (by decide +kernel) rfl rfl rfl h
theorem rL_law_679 (l0 l1 l2 l3 : Option Value) (a0 : Int32) (a1 : Int32) (b0 : Int64) (q : Nat) (σ : dS) : den mL_law 679 [l0, l1, l2, l3] [.int a1, .int a0, .ref q, .long b0] σ = if disO σ q 6 = true then ((dcall mX7_odds [.ref q, .int a0, .int a1] σ).bind fun r => den mL_law 682 [l0, l1, l2, l3] (r.1.toList ++ [.long b0]) r.2) else none := by
  by_cases h : disO σ q 6 = true
  · rw [if_pos h]; exact dn_callV (e := (0, 161, 1111)) (as := [.int a0, .int a1]) (rest := [.long b0]) eL_law dL_law_679 (by decide +kernel) rfl (by decide +kernel) rfl (dcat_le rfl) (dlen_le rfl) rfl h
  · rw [if_neg h]; exact den_noV (e := (0, 161, 1111)) (as := [.int a0, .int a1]) (rest := [.long b0]) eL_law dL_law_679 (by decide +kernel) rfl rfl rfl h
theorem rL_law_694 (l0 l1 l2 l3 : Option Value) (a0 : Int32) (q : Nat) (σ : dS) : den mL_law 694 [l0, l1, l2, l3] [.int a0, .ref q] σ = if disO σ q 5 = true then ((dcall mX6_live [.ref q, .int a0] σ).bind fun r => den mL_law 697 [l0, l1, l2, l3] (r.1.toList ++ []) r.2) else none := by
  by_cases h : disO σ q 5 = true
  · rw [if_pos h]; exact dn_callV (e := (0, 89, 628)) (as := [.int a0]) (rest := []) eL_law dL_law_694 (by decide +kernel) rfl (by decide +kernel) rfl (dcat_le rfl) (dlen_le rfl) rfl h
  · rw [if_neg h]; exact den_noV (e := (0, 89, 628)) (as := [.int a0]) (rest := []) eL_law dL_law_694 (by decide +kernel) rfl rfl rfl h
theorem rL_law_703 (l0 l1 l2 l3 : Option Value) (a0 : Int32) (b0 : Int32) (q : Nat) (σ : dS) : den mL_law 703 [l0, l1, l2, l3] [.int a0, .ref q, .int b0] σ = if disO σ q 6 = true then ((dcall mX7_live [.ref q, .int a0] σ).bind fun r => den mL_law 706 [l0, l1, l2, l3] (r.1.toList ++ [.int b0]) r.2) else none := by
  by_cases h : disO σ q 6 = true
  · rw [if_pos h]; exact dn_callV (e := (0, 165, 1115)) (as := [.int a0]) (rest := [.int b0]) eL_law dL_law_703 (by decide +kernel) rfl (by decide +kernel) rfl (dcat_le rfl) (dlen_le rfl) rfl h
  · rw [if_neg h]; exact den_noV (e := (0, 165, 1115)) (as := [.int a0]) (rest := [.int b0]) eL_law dL_law_703 (by decide +kernel) rfl rfl rfl h
theorem rL_law_717 (l0 l1 l2 l3 : Option Value) (a0 : Int32) (q : Nat) (σ : dS) : den mL_law 717 [l0, l1, l2, l3] [.int a0, .ref q] σ = if disO σ q 5 = true then ((dcall mX6_out [.ref q, .int a0] σ).bind fun r => den mL_law 720 [l0, l1, l2, l3] (r.1.toList ++ []) r.2) else none := by
  by_cases h : disO σ q 5 = true
  · rw [if_pos h]; exact dn_callV (e := (0, 90, 642)) (as := [.int a0]) (rest := []) eL_law dL_law_717 (by decide +kernel) rfl (by decide +kernel) rfl (dcat_le rfl) (dlen_le rfl) rfl h
  · rw [if_neg h]; exact den_noV (e := (0, 90, 642)) (as := [.int a0]) (rest := []) eL_law dL_law_717 (by decide +kernel) rfl rfl rfl h
theorem rL_law_726 (l0 l1 l2 l3 : Option Value) (a0 : Int32) (b0 : Int32) (q : Nat) (σ : dS) : den mL_law 726 [l0, l1, l2, l3] [.int a0, .ref q, .int b0] σ = if disO σ q 6 = true then ((dcall mX7_out [.ref q, .int a0] σ).bind fun r => den mL_law 729 [l0, l1, l2, l3] (r.1.toList ++ [.int b0]) r.2) else none := by
  by_cases h : disO σ q 6 = true
  · rw [if_pos h]; exact dn_callV (e := (0, 166, 1131)) (as := [.int a0]) (rest := [.int b0]) eL_law dL_law_726 (by decide +kernel) rfl (by decide +kernel) rfl (dcat_le rfl) (dlen_le rfl) rfl h
  · rw [if_neg h]; exact den_noV (e := (0, 166, 1131)) (as := [.int a0]) (rest := [.int b0]) eL_law dL_law_726 (by decide +kernel) rfl rfl rfl h
theorem rL_law_735 (l0 l1 l2 l3 : Option Value) (q : Nat) (σ : dS) : den mL_law 735 [l0, l1, l2, l3] [.ref q] σ = if disO σ q 5 = true then ((dcall mX6_sweep [.ref q] σ).bind fun r => den mL_law 738 [l0, l1, l2, l3] (r.1.toList ++ []) r.2) else none := by
  by_cases h : disO σ q 5 = true
  · rw [if_pos h]; exact dn_callV (e := (0, 91, 646)) (as := []) (rest := []) eL_law dL_law_735 (by decide +kernel) rfl (by decide +kernel) rfl (dcat_le rfl) (dlen_le rfl) rfl h
  · rw [if_neg h]; exact den_noV (e := (0, 91, 646)) (as := []) (rest := []) eL_law dL_law_735 (by decide +kernel) rfl rfl rfl h
theorem rL_law_739 (l0 l1 l2 l3 : Option Value) (b0 : Int32) (q : Nat) (σ : dS) : den mL_law 739 [l0, l1, l2, l3] [.ref q, .int b0] σ = if disO σ q 6 = true then ((dcall mX7_sweep [.ref q] σ).bind fun r => den mL_law 742 [l0, l1, l2, l3] (r.1.toList ++ [.int b0]) r.2) else none := by
  by_cases h : disO σ q 6 = true
  · rw [if_pos h]; exact dn_callV (e := (0, 169, 1136)) (as := []) (rest := [.int b0]) eL_law dL_law_739 (by decide +kernel) rfl (by decide +kernel) rfl (dcat_le rfl) (dlen_le rfl) rfl h
  · rw [if_neg h]; exact den_noV (e := (0, 169, 1136)) (as := []) (rest := [.int b0]) eL_law dL_law_739 (by decide +kernel) rfl rfl rfl h
theorem rL_law_748 (l0 l1 l2 l3 : Option Value) (q : Nat) (σ : dS) : den mL_law 748 [l0, l1, l2, l3] [.ref q] σ = if disO σ q 5 = true then ((dcall mX6_merge [.ref q] σ).bind fun r => den mL_law 751 [l0, l1, l2, l3] (r.1.toList ++ []) r.2) else none := by
  by_cases h : disO σ q 5 = true
  · rw [if_pos h]; exact dn_callV (e := (0, 92, 662)) (as := []) (rest := []) eL_law dL_law_748 (by decide +kernel) rfl (by decide +kernel) rfl (dcat_le rfl) (dlen_le rfl) rfl h
  · rw [if_neg h]; exact den_noV (e := (0, 92, 662)) (as := []) (rest := []) eL_law dL_law_748 (by decide +kernel) rfl rfl rfl h
theorem rL_law_752 (l0 l1 l2 l3 : Option Value) (b0 : Int32) (q : Nat) (σ : dS) : den mL_law 752 [l0, l1, l2, l3] [.ref q, .int b0] σ = if disO σ q 6 = true then ((dcall mX7_merge [.ref q] σ).bind fun r => den mL_law 755 [l0, l1, l2, l3] (r.1.toList ++ [.int b0]) r.2) else none := by
  by_cases h : disO σ q 6 = true
  · rw [if_pos h]; exact dn_callV (e := (0, 174, 1148)) (as := []) (rest := [.int b0]) eL_law dL_law_752 (by decide +kernel) rfl (by decide +kernel) rfl (dcat_le rfl) (dlen_le rfl) rfl h
  · rw [if_neg h]; exact den_noV (e := (0, 174, 1148)) (as := []) (rest := [.int b0]) eL_law dL_law_752 (by decide +kernel) rfl rfl rfl h
theorem rL_law_776 (l0 l1 l2 l3 : Option Value) (a0 : Int32) (a1 : Int32) (a2 : Int32) (q : Nat) (σ : dS) : den mL_law 776 [l0, l1, l2, l3] [.int a2, .int a1, .int a0, .ref q] σ = if disO σ q 5 = true then ((dcall mX6_set [.ref q, .int a0, .int a1, .int a2] σ).bind fun r => den mL_law 779 [l0, l1, l2, l3] (r.1.toList ++ []) r.2) else none := by
  by_cases h : disO σ q 5 = true
  · rw [if_pos h]; exact dn_callV (e := (0, 93, 686)) (as := [.int a0, .int a1, .int a2]) (rest := []) eL_law dL_law_776 (by decide +kernel) rfl (by decide +kernel) rfl (dcat_le rfl) (dlen_le rfl) rfl h
  · rw [if_neg h]; exact den_noV (e := (0, 93, 686)) (as := [.int a0, .int a1, .int a2]) (rest := []) eL_law dL_law_776 (by decide +kernel) rfl rfl rfl h
theorem rL_law_795 (l0 l1 l2 l3 : Option Value) (a0 : Int32) (a1 : Int32) (a2 : Int32) (b0 : Int32) (q : Nat) (σ : dS) : den mL_law 795 [l0, l1, l2, l3] [.int a2, .int a1, .int a0, .ref q, .int b0] σ = if disO σ q 6 = true then ((dcall mX7_set [.ref q, .int a0, .int a1, .int a2] σ).bind fun r => den mL_law 798 [l0, l1, l2, l3] (r.1.toList ++ [.int b0]) r.2) else none := by
  by_cases h : disO σ q 6 = true
  · rw [if_pos h]; exact dn_callV (e := (0, 175, 1168)) (as := [.int a0, .int a1, .int a2]) (rest := [.int b0]) eL_law dL_law_795 (by decide +kernel) rfl (by decide +kernel) rfl (dcat_le rfl) (dlen_le rfl) rfl h
  · rw [if_neg h]; exact den_noV (e := (0, 175, 1168)) (as := [.int a0, .int a1, .int a2]) (rest := [.int b0]) eL_law dL_law_795 (by decide +kernel) rfl rfl rfl h
theorem rL_law_814 (l0 l1 l2 l3 : Option Value) (a0 : Int32) (a1 : Int32) (q : Nat) (σ : dS) : den mL_law 814 [l0, l1, l2, l3] [.int a1, .int a0, .ref q] σ = if disO σ q 5 = true then ((dcall mX6_turn [.ref q, .int a0, .int a1] σ).bind fun r => den mL_law 817 [l0, l1, l2, l3] (r.1.toList ++ []) r.2) else none := by
  by_cases h : disO σ q 5 = true
  · rw [if_pos h]; exact dn_callV (e := (0, 94, 704)) (as := [.int a0, .int a1]) (rest := []) eL_law dL_law_814 (by decide +kernel) rfl (by decide +kernel) rfl (dcat_le rfl) (dlen_le rfl) rfl h
  · rw [if_neg h]; exact den_noV (e := (0, 94, 704)) (as := [.int a0, .int a1]) (rest := []) eL_law dL_law_814 (by decide +kernel) rfl rfl rfl h
theorem rL_law_828 (l0 l1 l2 l3 : Option Value) (a0 : Int32) (a1 : Int32) (b0 : Int32) (q : Nat) (σ : dS) : den mL_law 828 [l0, l1, l2, l3] [.int a1, .int a0, .ref q, .int b0] σ = if disO σ q 6 = true then ((dcall mX7_turn [.ref q, .int a0, .int a1] σ).bind fun r => den mL_law 831 [l0, l1, l2, l3] (r.1.toList ++ [.int b0]) r.2) else none := by
  by_cases h : disO σ q 6 = true
  · rw [if_pos h]; exact dn_callV (e := (0, 176, 1173)) (as := [.int a0, .int a1]) (rest := [.int b0]) eL_law dL_law_828 (by decide +kernel) rfl (by decide +kernel) rfl (dcat_le rfl) (dlen_le rfl) rfl h
  · rw [if_neg h]; exact den_noV (e := (0, 176, 1173)) (as := [.int a0, .int a1]) (rest := [.int b0]) eL_law dL_law_828 (by decide +kernel) rfl rfl rfl h
theorem rL_law_842 (l0 l1 l2 l3 : Option Value) (a0 : Int32) (q : Nat) (σ : dS) : den mL_law 842 [l0, l1, l2, l3] [.int a0, .ref q] σ = if disO σ q 5 = true then ((dcall mX6_keep [.ref q, .int a0] σ).bind fun r => den mL_law 845 [l0, l1, l2, l3] (r.1.toList ++ []) r.2) else none := by
  by_cases h : disO σ q 5 = true
  · rw [if_pos h]; exact dn_callV (e := (0, 95, 708)) (as := [.int a0]) (rest := []) eL_law dL_law_842 (by decide +kernel) rfl (by decide +kernel) rfl (dcat_le rfl) (dlen_le rfl) rfl h
  · rw [if_neg h]; exact den_noV (e := (0, 95, 708)) (as := [.int a0]) (rest := []) eL_law dL_law_842 (by decide +kernel) rfl rfl rfl h
theorem rL_law_851 (l0 l1 l2 l3 : Option Value) (a0 : Int32) (b0 : Int32) (q : Nat) (σ : dS) : den mL_law 851 [l0, l1, l2, l3] [.int a0, .ref q, .int b0] σ = if disO σ q 6 = true then ((dcall mX7_keep [.ref q, .int a0] σ).bind fun r => den mL_law 854 [l0, l1, l2, l3] (r.1.toList ++ [.int b0]) r.2) else none := by
  by_cases h : disO σ q 6 = true
  · rw [if_pos h]; exact dn_callV (e := (0, 177, 1178)) (as := [.int a0]) (rest := [.int b0]) eL_law dL_law_851 (by decide +kernel) rfl (by decide +kernel) rfl (dcat_le rfl) (dlen_le rfl) rfl h
  · rw [if_neg h]; exact den_noV (e := (0, 177, 1178)) (as := [.int a0]) (rest := [.int b0]) eL_law dL_law_851 (by decide +kernel) rfl rfl rfl h
theorem rL_law_865 (l0 l1 l2 l3 : Option Value) (a0 : Int32) (q : Nat) (σ : dS) : den mL_law 865 [l0, l1, l2, l3] [.int a0, .ref q] σ = if disO σ q 5 = true then ((dcall mX6_back [.ref q, .int a0] σ).bind fun r => den mL_law 868 [l0, l1, l2, l3] (r.1.toList ++ []) r.2) else none := by
  by_cases h : disO σ q 5 = true
  · rw [if_pos h]; exact dn_callV (e := (0, 96, 712)) (as := [.int a0]) (rest := []) eL_law dL_law_865 (by decide +kernel) rfl (by decide +kernel) rfl (dcat_le rfl) (dlen_le rfl) rfl h
  · rw [if_neg h]; exact den_noV (e := (0, 96, 712)) (as := [.int a0]) (rest := []) eL_law dL_law_865 (by decide +kernel) rfl rfl rfl h
theorem rL_law_874 (l0 l1 l2 l3 : Option Value) (a0 : Int32) (b0 : Int32) (q : Nat) (σ : dS) : den mL_law 874 [l0, l1, l2, l3] [.int a0, .ref q, .int b0] σ = if disO σ q 6 = true then ((dcall mX7_back [.ref q, .int a0] σ).bind fun r => den mL_law 877 [l0, l1, l2, l3] (r.1.toList ++ [.int b0]) r.2) else none := by
  by_cases h : disO σ q 6 = true
  · rw [if_pos h]; exact dn_callV (e := (0, 178, 1182)) (as := [.int a0]) (rest := [.int b0]) eL_law dL_law_874 (by decide +kernel) rfl (by decide +kernel) rfl (dcat_le rfl) (dlen_le rfl) rfl h
  · rw [if_neg h]; exact den_noV (e := (0, 178, 1182)) (as := [.int a0]) (rest := [.int b0]) eL_law dL_law_874 (by decide +kernel) rfl rfl rfl h
theorem rL_law_898 (l0 l1 l2 l3 : Option Value) (a0 : Int32) (a1 : Int32) (a2 : Int32) (q : Nat) (σ : dS) : den mL_law 898 [l0, l1, l2, l3] [.int a2, .int a1, .int a0, .ref q] σ = if disO σ q 5 = true then ((dcall mX6_sheet [.ref q, .int a0, .int a1, .int a2] σ).bind fun r => den mL_law 901 [l0, l1, l2, l3] (r.1.toList ++ []) r.2) else none := by
  by_cases h : disO σ q 5 = true
  · rw [if_pos h]; exact dn_callV (e := (0, 97, 716)) (as := [.int a0, .int a1, .int a2]) (rest := []) eL_law dL_law_898 (by decide +kernel) rfl (by decide +kernel) rfl (dcat_le rfl) (dlen_le rfl) rfl h
  · rw [if_neg h]; exact den_noV (e := (0, 97, 716)) (as := [.int a0, .int a1, .int a2]) (rest := []) eL_law dL_law_898 (by decide +kernel) rfl rfl rfl h
theorem rL_law_917 (l0 l1 l2 l3 : Option Value) (a0 : Int32) (a1 : Int32) (a2 : Int32) (b0 : Int32) (q : Nat) (σ : dS) : den mL_law 917 [l0, l1, l2, l3] [.int a2, .int a1, .int a0, .ref q, .int b0] σ = if disO σ q 6 = true then ((dcall mX7_sheet [.ref q, .int a0, .int a1, .int a2] σ).bind fun r => den mL_law 920 [l0, l1, l2, l3] (r.1.toList ++ [.int b0]) r.2) else none := by
  by_cases h : disO σ q 6 = true
  · rw [if_pos h]; exact dn_callV (e := (0, 180, 1186)) (as := [.int a0, .int a1, .int a2]) (rest := [.int b0]) eL_law dL_law_917 (by decide +kernel) rfl (by decide +kernel) rfl (dcat_le rfl) (dlen_le rfl) rfl h
  · rw [if_neg h]; exact den_noV (e := (0, 180, 1186)) (as := [.int a0, .int a1, .int a2]) (rest := [.int b0]) eL_law dL_law_917 (by decide +kernel) rfl rfl rfl h
theorem rL_law_941 (l0 l1 l2 l3 : Option Value) (a0 : Int32) (a1 : Int32) (a2 : Int32) (q : Nat) (σ : dS) : den mL_law 941 [l0, l1, l2, l3] [.int a2, .int a1, .int a0, .ref q] σ = if disO σ q 5 = true then ((dcall mX6_lay [.ref q, .int a0, .int a1, .int a2] σ).bind fun r => den mL_law 944 [l0, l1, l2, l3] (r.1.toList ++ []) r.2) else none := by
  by_cases h : disO σ q 5 = true
  · rw [if_pos h]; exact dn_callV (e := (0, 98, 725)) (as := [.int a0, .int a1, .int a2]) (rest := []) eL_law dL_law_941 (by decide +kernel) rfl (by decide +kernel) rfl (dcat_le rfl) (dlen_le rfl) rfl h
  · rw [if_neg h]; exact den_noV (e := (0, 98, 725)) (as := [.int a0, .int a1, .int a2]) (rest := []) eL_law dL_law_941 (by decide +kernel) rfl rfl rfl h
theorem rL_law_960 (l0 l1 l2 l3 : Option Value) (a0 : Int32) (a1 : Int32) (a2 : Int32) (b0 : Int32) (q : Nat) (σ : dS) : den mL_law 960 [l0, l1, l2, l3] [.int a2, .int a1, .int a0, .ref q, .int b0] σ = if disO σ q 6 = true then ((dcall mX7_lay [.ref q, .int a0, .int a1, .int a2] σ).bind fun r => den mL_law 963 [l0, l1, l2, l3] (r.1.toList ++ [.int b0]) r.2) else none := by
  by_cases h : disO σ q 6 = true
  · rw [if_pos h]; exact dn_callV (e := (0, 181, 1193)) (as := [.int a0, .int a1, .int a2]) (rest := [.int b0]) eL_law dL_law_960 (by decide +kernel) rfl (by decide +kernel) rfl (dcat_le rfl) (dlen_le rfl) rfl h
  · rw [if_neg h]; exact den_noV (e := (0, 181, 1193)) (as := [.int a0, .int a1, .int a2]) (rest := [.int b0]) eL_law dL_law_960 (by decide +kernel) rfl rfl rfl h
theorem rL_law_989 (l0 l1 l2 l3 : Option Value) (a0 : Int32) (a1 : Int32) (a2 : Int32) (a3 : Int32) (q : Nat) (σ : dS) : den mL_law 989 [l0, l1, l2, l3] [.int a3, .int a2, .int a1, .int a0, .ref q] σ = if disO σ q 5 = true then ((dcall mX6_read [.ref q, .int a0, .int a1, .int a2, .int a3] σ).bind fun r => den mL_law 992 [l0, l1, l2, l3] (r.1.toList ++ []) r.2) else none := by
  by_cases h : disO σ q 5 = true
  · rw [if_pos h]; exact dn_callV (e := (0, 99, 733)) (as := [.int a0, .int a1, .int a2, .int a3]) (rest := []) eL_law dL_law_989 (by decide +kernel) rfl (by decide +kernel) rfl (dcat_le rfl) (dlen_le rfl) rfl h
  · rw [if_neg h]; exact den_noV (e := (0, 99, 733)) (as := [.int a0, .int a1, .int a2, .int a3]) (rest := []) eL_law dL_law_989 (by decide +kernel) rfl rfl rfl h
theorem rL_law_1013 (l0 l1 l2 l3 : Option Value) (a0 : Int32) (a1 : Int32) (a2 : Int32) (a3 : Int32) (b0 : Int32) (q : Nat) (σ : dS) : den mL_law 1013 [l0, l1, l2, l3] [.int a3, .int a2, .int a1, .int a0, .ref q, .int b0] σ = if disO σ q 6 = true then ((dcall mX7_read [.ref q, .int a0, .int a1, .int a2, .int a3] σ).bind fun r => den mL_law 1016 [l0, l1, l2, l3] (r.1.toList ++ [.int b0]) r.2) else none := by
  by_cases h : disO σ q 6 = true
  · rw [if_pos h]; exact dn_callV (e := (0, 182, 1197)) (as := [.int a0, .int a1, .int a2, .int a3]) (rest := [.int b0]) eL_law dL_law_1013 (by decide +kernel) rfl (by decide +kernel) rfl (dcat_le rfl) (dlen_le rfl) rfl h
  · rw [if_neg h]; exact den_noV (e := (0, 182, 1197)) (as := [.int a0, .int a1, .int a2, .int a3]) (rest := [.int b0]) eL_law dL_law_1013 (by decide +kernel) rfl rfl rfl h
theorem rL_law_1022 (l0 l1 l2 l3 : Option Value) (q : Nat) (σ : dS) : den mL_law 1022 [l0, l1, l2, l3] [.ref q] σ = if disO σ q 5 = true then ((dcall mX6_torn [.ref q] σ).bind fun r => den mL_law 1025 [l0, l1, l2, l3] (r.1.toList ++ []) r.2) else none := by
  by_cases h : disO σ q 5 = true
  · rw [if_pos h]; exact dn_callV (e := (0, 100, 741)) (as := []) (rest := []) eL_law dL_law_1022 (by decide +kernel) rfl (by decide +kernel) rfl (dcat_le rfl) (dlen_le rfl) rfl h
  · rw [if_neg h]; exact den_noV (e := (0, 100, 741)) (as := []) (rest := []) eL_law dL_law_1022 (by decide +kernel) rfl rfl rfl h
theorem rL_law_1026 (l0 l1 l2 l3 : Option Value) (b0 : Int32) (q : Nat) (σ : dS) : den mL_law 1026 [l0, l1, l2, l3] [.ref q, .int b0] σ = if disO σ q 6 = true then ((dcall mX7_torn [.ref q] σ).bind fun r => den mL_law 1029 [l0, l1, l2, l3] (r.1.toList ++ [.int b0]) r.2) else none := by
  by_cases h : disO σ q 6 = true
  · rw [if_pos h]; exact dn_callV (e := (0, 183, 1203)) (as := []) (rest := [.int b0]) eL_law dL_law_1026 (by decide +kernel) rfl (by decide +kernel) rfl (dcat_le rfl) (dlen_le rfl) rfl h
  · rw [if_neg h]; exact den_noV (e := (0, 183, 1203)) (as := []) (rest := [.int b0]) eL_law dL_law_1026 (by decide +kernel) rfl rfl rfl h
theorem rL_law_1040 (l0 l1 l2 l3 : Option Value) (a0 : Int32) (q : Nat) (σ : dS) : den mL_law 1040 [l0, l1, l2, l3] [.int a0, .ref q] σ = if disO σ q 5 = true then ((dcall mX6_count [.ref q, .int a0] σ).bind fun r => den mL_law 1043 [l0, l1, l2, l3] (r.1.toList ++ []) r.2) else none := by
  by_cases h : disO σ q 5 = true
  · rw [if_pos h]; exact dn_callV (e := (0, 101, 745)) (as := [.int a0]) (rest := []) eL_law dL_law_1040 (by decide +kernel) rfl (by decide +kernel) rfl (dcat_le rfl) (dlen_le rfl) rfl h
  · rw [if_neg h]; exact den_noV (e := (0, 101, 745)) (as := [.int a0]) (rest := []) eL_law dL_law_1040 (by decide +kernel) rfl rfl rfl h
theorem rL_law_1049 (l0 l1 l2 l3 : Option Value) (a0 : Int32) (b0 : Int32) (q : Nat) (σ : dS) : den mL_law 1049 [l0, l1, l2, l3] [.int a0, .ref q, .int b0] σ = if disO σ q 6 = true then ((dcall mX7_count [.ref q, .int a0] σ).bind fun r => den mL_law 1052 [l0, l1, l2, l3] (r.1.toList ++ [.int b0]) r.2) else none := by
  by_cases h : disO σ q 6 = true
  · rw [if_pos h]; exact dn_callV (e := (0, 185, 1207)) (as := [.int a0]) (rest := [.int b0]) eL_law dL_law_1049 (by decide +kernel) rfl (by decide +kernel) rfl (dcat_le rfl) (dlen_le rfl) rfl h
  · rw [if_neg h]; exact den_noV (e := (0, 185, 1207)) (as := [.int a0]) (rest := [.int b0]) eL_law dL_law_1049 (by decide +kernel) rfl rfl rfl h
set_option maxRecDepth 20000 in
theorem SL_law_0 : (∀ (l1 l2 l3 : Option Value) (x : Nat) (st : List Value) (σ : dS), den mL_law 19 [some (.ref x), l1, l2, l3] st σ = den mL_law 20 [some (.ref x), l1, l2, l3] (.ref x :: st) σ) ∧
  (∀ (l0 l1 l2 l3 : Option Value) (q : Nat) (st : List Value) (σ : dS), den mL_law 20 [l0, l1, l2, l3] (.ref q :: st) σ = (dalen σ q).bind fun v => den mL_law 21 [l0, l1, l2, l3] (.int v :: st) σ) ∧
  (∀ (l0 l1 l2 l3 : Option Value) (st : List Value) (σ : dS), den mL_law 21 [l0, l1, l2, l3] st σ = den mL_law 22 [l0, l1, l2, l3] (.int (nI 5) :: st) σ) ∧
  (∀ (l0 l1 l2 l3 : Option Value) (x y : Int32) (st : List Value) (σ : dS), den mL_law 22 [l0, l1, l2, l3] (.int y :: .int x :: st) σ = den mL_law 23 [l0, l1, l2, l3] (.int (x - y) :: st) σ) ∧
  (∀ (l0 l1 l2 l3 : Option Value) (x y : Int32) (st : List Value) (σ : dS), den mL_law 23 [l0, l1, l2, l3] (.int y :: .int x :: st) σ = if y < x then den mL_law 1063 [l0, l1, l2, l3] st σ else den mL_law 26 [l0, l1, l2, l3] st σ) ∧
  (∀ (l1 l2 l3 : Option Value) (x : Nat) (st : List Value) (σ : dS), den mL_law 26 [some (.ref x), l1, l2, l3] st σ = den mL_law 27 [some (.ref x), l1, l2, l3] (.ref x :: st) σ) ∧
  (∀ (l0 l1 l2 : Option Value) (x : Int32) (st : List Value) (σ : dS), den mL_law 27 [l0, l1, l2, some (.int x)] st σ = den mL_law 28 [l0, l1, l2, some (.int x)] (.int x :: st) σ) ∧
  (∀ (l0 l1 l2 l3 : Option Value) (q : Nat) (i : Int32) (st : List Value) (σ : dS), den mL_law 28 [l0, l1, l2, l3] (.int i :: .ref q :: st) σ = if q ≤ dN then (dald σ q 0 i).bind (fun v => den mL_law 29 [l0, l1, l2, l3] (.int v :: st) σ) else none) ∧
  (∀ (l0 l1 l2 l3 : Option Value) (st : List Value) (σ : dS), den mL_law 29 [l0, l1, l2, l3] st σ = den mL_law 31 [l0, l1, l2, l3] (.int (nI 31) :: st) σ) ∧
  (∀ (l0 l1 l2 l3 : Option Value) (x y : Int32) (st : List Value) (σ : dS), den mL_law 31 [l0, l1, l2, l3] (.int y :: .int x :: st) σ = den mL_law 32 [l0, l1, l2, l3] (.int (x &&& y) :: st) σ) ∧
  (∀ (l0 l1 l2 l3 : Option Value) (x : Int32) (st : List Value) (σ : dS), den mL_law 32 [l0, l1, l2, l3] (.int x :: st) σ = if x = nI 0 then den mL_law 172 [l0, l1, l2, l3] st σ else if x = nI 1 then den mL_law 195 [l0, l1, l2, l3] st σ else if x = nI 2 then den mL_law 218 [l0, l1, l2, l3] st σ else if x = nI 3 then den mL_law 231 [l0, l1, l2, l3] st σ else if x = nI 4 then den mL_law 244 [l0, l1, l2, l3] st σ else if x = nI 5 then den mL_law 267 [l0, l1, l2, l3] st σ else if x = nI 6 then den mL_law 300 [l0, l1, l2, l3] st σ else if x = nI 7 then den mL_law 333 [l0, l1, l2, l3] st σ else if x = nI 8 then den mL_law 366 [l0, l1, l2, l3] st σ else if x = nI 9 then den mL_law 399 [l0, l1, l2, l3] st σ else if x = nI 10 then den mL_law 432 [l0, l1, l2, l3] st σ else if x = nI 11 then den mL_law 485 [l0, l1, l2, l3] st σ else if x = nI 12 then den mL_law 508 [l0, l1, l2, l3] st σ else if x = nI 13 then den mL_law 521 [l0, l1, l2, l3] st σ else if x = nI 14 then den mL_law 564 [l0, l1, l2, l3] st σ else if x = nI 15 then den mL_law 597 [l0, l1, l2, l3] st σ else if x = nI 16 then den mL_law 630 [l0, l1, l2, l3] st σ else if x = nI 17 then den mL_law 654 [l0, l1, l2, l3] st σ else if x = nI 18 then den mL_law 688 [l0, l1, l2, l3] st σ else if x = nI 19 then den mL_law 711 [l0, l1, l2, l3] st σ else if x = nI 20 then den mL_law 734 [l0, l1, l2, l3] st σ else if x = nI 21 then den mL_law 747 [l0, l1, l2, l3] st σ else if x = nI 22 then den mL_law 760 [l0, l1, l2, l3] st σ else if x = nI 23 then den mL_law 803 [l0, l1, l2, l3] st σ else if x = nI 24 then den mL_law 836 [l0, l1, l2, l3] st σ else if x = nI 25 then den mL_law 859 [l0, l1, l2, l3] st σ else if x = nI 26 then den mL_law 882 [l0, l1, l2, l3] st σ else if x = nI 27 then den mL_law 925 [l0, l1, l2, l3] st σ else if x = nI 28 then den mL_law 968 [l0, l1, l2, l3] st σ else if x = nI 29 then den mL_law 1021 [l0, l1, l2, l3] st σ else if x = nI 30 then den mL_law 1034 [l0, l1, l2, l3] st σ else den mL_law 1057 [l0, l1, l2, l3] st σ) ∧
  (∀ (l0 l2 l3 : Option Value) (x : Nat) (st : List Value) (σ : dS), den mL_law 172 [l0, some (.ref x), l2, l3] st σ = den mL_law 173 [l0, some (.ref x), l2, l3] (.ref x :: st) σ) ∧
  (∀ (l1 l2 l3 : Option Value) (x : Nat) (st : List Value) (σ : dS), den mL_law 173 [some (.ref x), l1, l2, l3] st σ = den mL_law 174 [some (.ref x), l1, l2, l3] (.ref x :: st) σ) ∧
  (∀ (l0 l1 l2 : Option Value) (x : Int32) (st : List Value) (σ : dS), den mL_law 174 [l0, l1, l2, some (.int x)] st σ = den mL_law 175 [l0, l1, l2, some (.int x)] (.int x :: st) σ) ∧
  (∀ (l0 l1 l2 l3 : Option Value) (st : List Value) (σ : dS), den mL_law 175 [l0, l1, l2, l3] st σ = den mL_law 176 [l0, l1, l2, l3] (.int (nI 1) :: st) σ) ∧
  (∀ (l0 l1 l2 l3 : Option Value) (x y : Int32) (st : List Value) (σ : dS), den mL_law 176 [l0, l1, l2, l3] (.int y :: .int x :: st) σ = den mL_law 177 [l0, l1, l2, l3] (.int (x + y) :: st) σ) ∧
  (∀ (l0 l1 l2 l3 : Option Value) (q : Nat) (i : Int32) (st : List Value) (σ : dS), den mL_law 177 [l0, l1, l2, l3] (.int i :: .ref q :: st) σ = if q ≤ dN then (dald σ q 0 i).bind (fun v => den mL_law 178 [l0, l1, l2, l3] (.int v :: st) σ) else none) ∧
  (∀ (l0 l1 l2 l3 : Option Value) (a0 : Int32) (q : Nat) (σ : dS), den mL_law 178 [l0, l1, l2, l3] [.int a0, .ref q] σ = if disO σ q 5 = true then ((dcall mX6_feed [.ref q, .int a0] σ).bind fun r => den mL_law 181 [l0, l1, l2, l3] (r.1.toList ++ []) r.2) else none) ∧
  (∀ (l0 l1 l3 : Option Value) (x : Nat) (st : List Value) (σ : dS), den mL_law 181 [l0, l1, some (.ref x), l3] st σ = den mL_law 182 [l0, l1, some (.ref x), l3] (.ref x :: st) σ) ∧
  (∀ (l1 l2 l3 : Option Value) (x : Nat) (st : List Value) (σ : dS), den mL_law 182 [some (.ref x), l1, l2, l3] st σ = den mL_law 183 [some (.ref x), l1, l2, l3] (.ref x :: st) σ) ∧
  (∀ (l0 l1 l2 : Option Value) (x : Int32) (st : List Value) (σ : dS), den mL_law 183 [l0, l1, l2, some (.int x)] st σ = den mL_law 184 [l0, l1, l2, some (.int x)] (.int x :: st) σ) ∧
  (∀ (l0 l1 l2 l3 : Option Value) (st : List Value) (σ : dS), den mL_law 184 [l0, l1, l2, l3] st σ = den mL_law 185 [l0, l1, l2, l3] (.int (nI 1) :: st) σ) ∧
  (∀ (l0 l1 l2 l3 : Option Value) (x y : Int32) (st : List Value) (σ : dS), den mL_law 185 [l0, l1, l2, l3] (.int y :: .int x :: st) σ = den mL_law 186 [l0, l1, l2, l3] (.int (x + y) :: st) σ) ∧
  (∀ (l0 l1 l2 l3 : Option Value) (q : Nat) (i : Int32) (st : List Value) (σ : dS), den mL_law 186 [l0, l1, l2, l3] (.int i :: .ref q :: st) σ = if q ≤ dN then (dald σ q 0 i).bind (fun v => den mL_law 187 [l0, l1, l2, l3] (.int v :: st) σ) else none) ∧
  (∀ (l0 l1 l2 l3 : Option Value) (a0 : Int32) (b0 : Int32) (q : Nat) (σ : dS), den mL_law 187 [l0, l1, l2, l3] [.int a0, .ref q, .int b0] σ = if disO σ q 6 = true then ((dcall mX7_feed [.ref q, .int a0] σ).bind fun r => den mL_law 190 [l0, l1, l2, l3] (r.1.toList ++ [.int b0]) r.2) else none) ∧
  (∀ (l0 l1 l2 l3 : Option Value) (x y : Int32) (st : List Value) (σ : dS), den mL_law 190 [l0, l1, l2, l3] (.int y :: .int x :: st) σ = if x = y then den mL_law 1057 [l0, l1, l2, l3] st σ else den mL_law 193 [l0, l1, l2, l3] st σ) ∧
  (∀ (l0 l1 l2 l3 : Option Value) (st : List Value) (σ : dS), den mL_law 193 [l0, l1, l2, l3] st σ = den mL_law 194 [l0, l1, l2, l3] (.int (nI 0) :: st) σ) ∧
  (∀ (l0 l1 l2 l3 : Option Value) (v : Int32) (σ : dS), den mL_law 194 [l0, l1, l2, l3] [.int v] σ = if v = 0 ∨ v = 1 then some (some (.int v), σ) else none) ∧
  (∀ (l0 l2 l3 : Option Value) (x : Nat) (st : List Value) (σ : dS), den mL_law 195 [l0, some (.ref x), l2, l3] st σ = den mL_law 196 [l0, some (.ref x), l2, l3] (.ref x :: st) σ) ∧
  (∀ (l1 l2 l3 : Option Value) (x : Nat) (st : List Value) (σ : dS), den mL_law 196 [some (.ref x), l1, l2, l3] st σ = den mL_law 197 [some (.ref x), l1, l2, l3] (.ref x :: st) σ) ∧
  (∀ (l0 l1 l2 : Option Value) (x : Int32) (st : List Value) (σ : dS), den mL_law 197 [l0, l1, l2, some (.int x)] st σ = den mL_law 198 [l0, l1, l2, some (.int x)] (.int x :: st) σ) ∧
  (∀ (l0 l1 l2 l3 : Option Value) (st : List Value) (σ : dS), den mL_law 198 [l0, l1, l2, l3] st σ = den mL_law 199 [l0, l1, l2, l3] (.int (nI 1) :: st) σ) ∧
  (∀ (l0 l1 l2 l3 : Option Value) (x y : Int32) (st : List Value) (σ : dS), den mL_law 199 [l0, l1, l2, l3] (.int y :: .int x :: st) σ = den mL_law 200 [l0, l1, l2, l3] (.int (x + y) :: st) σ) ∧
  (∀ (l0 l1 l2 l3 : Option Value) (q : Nat) (i : Int32) (st : List Value) (σ : dS), den mL_law 200 [l0, l1, l2, l3] (.int i :: .ref q :: st) σ = if q ≤ dN then (dald σ q 0 i).bind (fun v => den mL_law 201 [l0, l1, l2, l3] (.int v :: st) σ) else none) ∧
  (∀ (l0 l1 l2 l3 : Option Value) (a0 : Int32) (q : Nat) (σ : dS), den mL_law 201 [l0, l1, l2, l3] [.int a0, .ref q] σ = if disO σ q 5 = true then ((dcall mX6_end [.ref q, .int a0] σ).bind fun r => den mL_law 204 [l0, l1, l2, l3] (r.1.toList ++ []) r.2) else none) ∧
  (∀ (l0 l1 l3 : Option Value) (x : Nat) (st : List Value) (σ : dS), den mL_law 204 [l0, l1, some (.ref x), l3] st σ = den mL_law 205 [l0, l1, some (.ref x), l3] (.ref x :: st) σ) ∧
  (∀ (l1 l2 l3 : Option Value) (x : Nat) (st : List Value) (σ : dS), den mL_law 205 [some (.ref x), l1, l2, l3] st σ = den mL_law 206 [some (.ref x), l1, l2, l3] (.ref x :: st) σ) ∧
  (∀ (l0 l1 l2 : Option Value) (x : Int32) (st : List Value) (σ : dS), den mL_law 206 [l0, l1, l2, some (.int x)] st σ = den mL_law 207 [l0, l1, l2, some (.int x)] (.int x :: st) σ) ∧
  (∀ (l0 l1 l2 l3 : Option Value) (st : List Value) (σ : dS), den mL_law 207 [l0, l1, l2, l3] st σ = den mL_law 208 [l0, l1, l2, l3] (.int (nI 1) :: st) σ) ∧
  (∀ (l0 l1 l2 l3 : Option Value) (x y : Int32) (st : List Value) (σ : dS), den mL_law 208 [l0, l1, l2, l3] (.int y :: .int x :: st) σ = den mL_law 209 [l0, l1, l2, l3] (.int (x + y) :: st) σ) :=
  ⟨fun l1 l2 l3 x st σ => dn_aload_n eL_law dL_law_19 rfl,
  fun l0 l1 l2 l3 q st σ => dn_arraylength eL_law dL_law_20,
  fun l0 l1 l2 l3 st σ => dn_iconst eL_law dL_law_21 kc_iconst_5,
  fun l0 l1 l2 l3 x y st σ => dn_isub eL_law dL_law_22,
  fun l0 l1 l2 l3 x y st σ => dn_icmp_gt eL_law dL_law_23 (by decide),
  fun l1 l2 l3 x st σ => dn_aload_n eL_law dL_law_26 rfl,
  fun l0 l1 l2 x st σ => dn_iload_n eL_law dL_law_27 rfl,
  fun l0 l1 l2 l3 q i st σ => dn_iaload eL_law dL_law_28,
  fun l0 l1 l2 l3 st σ => dn_bipush eL_law dL_law_29 kc_bipush_31,
  fun l0 l1 l2 l3 x y st σ => dn_iand eL_law dL_law_31,
  fun l0 l1 l2 l3 x st σ => rL_law_32 l0 l1 l2 l3 x st σ,
  fun l0 l2 l3 x st σ => dn_aload_n eL_law dL_law_172 rfl,
  fun l1 l2 l3 x st σ => dn_aload_n eL_law dL_law_173 rfl,
  fun l0 l1 l2 x st σ => dn_iload_n eL_law dL_law_174 rfl,
  fun l0 l1 l2 l3 st σ => dn_iconst eL_law dL_law_175 kc_iconst_1,
  fun l0 l1 l2 l3 x y st σ => dn_iadd eL_law dL_law_176,
  fun l0 l1 l2 l3 q i st σ => dn_iaload eL_law dL_law_177,
  fun l0 l1 l2 l3 a0 q σ => rL_law_178 l0 l1 l2 l3 a0 q σ,
  fun l0 l1 l3 x st σ => dn_aload_n eL_law dL_law_181 rfl,
  fun l1 l2 l3 x st σ => dn_aload_n eL_law dL_law_182 rfl,
  fun l0 l1 l2 x st σ => dn_iload_n eL_law dL_law_183 rfl,
  fun l0 l1 l2 l3 st σ => dn_iconst eL_law dL_law_184 kc_iconst_1,
  fun l0 l1 l2 l3 x y st σ => dn_iadd eL_law dL_law_185,
  fun l0 l1 l2 l3 q i st σ => dn_iaload eL_law dL_law_186,
  fun l0 l1 l2 l3 a0 b0 q σ => rL_law_187 l0 l1 l2 l3 a0 b0 q σ,
  fun l0 l1 l2 l3 x y st σ => dn_icmp_eq eL_law dL_law_190 (by decide),
  fun l0 l1 l2 l3 st σ => dn_iconst eL_law dL_law_193 kc_iconst_0,
  fun l0 l1 l2 l3 v σ => dn_zreturn eL_law dL_law_194 rfl,
  fun l0 l2 l3 x st σ => dn_aload_n eL_law dL_law_195 rfl,
  fun l1 l2 l3 x st σ => dn_aload_n eL_law dL_law_196 rfl,
  fun l0 l1 l2 x st σ => dn_iload_n eL_law dL_law_197 rfl,
  fun l0 l1 l2 l3 st σ => dn_iconst eL_law dL_law_198 kc_iconst_1,
  fun l0 l1 l2 l3 x y st σ => dn_iadd eL_law dL_law_199,
  fun l0 l1 l2 l3 q i st σ => dn_iaload eL_law dL_law_200,
  fun l0 l1 l2 l3 a0 q σ => rL_law_201 l0 l1 l2 l3 a0 q σ,
  fun l0 l1 l3 x st σ => dn_aload_n eL_law dL_law_204 rfl,
  fun l1 l2 l3 x st σ => dn_aload_n eL_law dL_law_205 rfl,
  fun l0 l1 l2 x st σ => dn_iload_n eL_law dL_law_206 rfl,
  fun l0 l1 l2 l3 st σ => dn_iconst eL_law dL_law_207 kc_iconst_1,
  fun l0 l1 l2 l3 x y st σ => dn_iadd eL_law dL_law_208⟩
set_option maxRecDepth 20000 in
theorem SL_law_1 : (∀ (l0 l1 l2 l3 : Option Value) (q : Nat) (i : Int32) (st : List Value) (σ : dS), den mL_law 209 [l0, l1, l2, l3] (.int i :: .ref q :: st) σ = if q ≤ dN then (dald σ q 0 i).bind (fun v => den mL_law 210 [l0, l1, l2, l3] (.int v :: st) σ) else none) ∧
  (∀ (l0 l1 l2 l3 : Option Value) (a0 : Int32) (b0 : Int32) (q : Nat) (σ : dS), den mL_law 210 [l0, l1, l2, l3] [.int a0, .ref q, .int b0] σ = if disO σ q 6 = true then ((dcall mX7_end [.ref q, .int a0] σ).bind fun r => den mL_law 213 [l0, l1, l2, l3] (r.1.toList ++ [.int b0]) r.2) else none) ∧
  (∀ (l0 l1 l2 l3 : Option Value) (x y : Int32) (st : List Value) (σ : dS), den mL_law 213 [l0, l1, l2, l3] (.int y :: .int x :: st) σ = if x = y then den mL_law 1057 [l0, l1, l2, l3] st σ else den mL_law 216 [l0, l1, l2, l3] st σ) ∧
  (∀ (l0 l1 l2 l3 : Option Value) (st : List Value) (σ : dS), den mL_law 216 [l0, l1, l2, l3] st σ = den mL_law 217 [l0, l1, l2, l3] (.int (nI 0) :: st) σ) ∧
  (∀ (l0 l1 l2 l3 : Option Value) (v : Int32) (σ : dS), den mL_law 217 [l0, l1, l2, l3] [.int v] σ = if v = 0 ∨ v = 1 then some (some (.int v), σ) else none) ∧
  (∀ (l0 l2 l3 : Option Value) (x : Nat) (st : List Value) (σ : dS), den mL_law 218 [l0, some (.ref x), l2, l3] st σ = den mL_law 219 [l0, some (.ref x), l2, l3] (.ref x :: st) σ) ∧
  (∀ (l0 l1 l2 l3 : Option Value) (q : Nat) (σ : dS), den mL_law 219 [l0, l1, l2, l3] [.ref q] σ = if disO σ q 5 = true then ((dcall mX6_text [.ref q] σ).bind fun r => den mL_law 222 [l0, l1, l2, l3] (r.1.toList ++ []) r.2) else none) ∧
  (∀ (l0 l1 l3 : Option Value) (x : Nat) (st : List Value) (σ : dS), den mL_law 222 [l0, l1, some (.ref x), l3] st σ = den mL_law 223 [l0, l1, some (.ref x), l3] (.ref x :: st) σ) ∧
  (∀ (l0 l1 l2 l3 : Option Value) (b0 : Int32) (q : Nat) (σ : dS), den mL_law 223 [l0, l1, l2, l3] [.ref q, .int b0] σ = if disO σ q 6 = true then ((dcall mX7_text [.ref q] σ).bind fun r => den mL_law 226 [l0, l1, l2, l3] (r.1.toList ++ [.int b0]) r.2) else none) ∧
  (∀ (l0 l1 l2 l3 : Option Value) (x y : Int32) (st : List Value) (σ : dS), den mL_law 226 [l0, l1, l2, l3] (.int y :: .int x :: st) σ = if x = y then den mL_law 1057 [l0, l1, l2, l3] st σ else den mL_law 229 [l0, l1, l2, l3] st σ) ∧
  (∀ (l0 l1 l2 l3 : Option Value) (st : List Value) (σ : dS), den mL_law 229 [l0, l1, l2, l3] st σ = den mL_law 230 [l0, l1, l2, l3] (.int (nI 0) :: st) σ) ∧
  (∀ (l0 l1 l2 l3 : Option Value) (v : Int32) (σ : dS), den mL_law 230 [l0, l1, l2, l3] [.int v] σ = if v = 0 ∨ v = 1 then some (some (.int v), σ) else none) ∧
  (∀ (l0 l2 l3 : Option Value) (x : Nat) (st : List Value) (σ : dS), den mL_law 231 [l0, some (.ref x), l2, l3] st σ = den mL_law 232 [l0, some (.ref x), l2, l3] (.ref x :: st) σ) ∧
  (∀ (l0 l1 l2 l3 : Option Value) (q : Nat) (σ : dS), den mL_law 232 [l0, l1, l2, l3] [.ref q] σ = if disO σ q 5 = true then ((dcall mX6_fault [.ref q] σ).bind fun r => den mL_law 235 [l0, l1, l2, l3] (r.1.toList ++ []) r.2) else none) ∧
  (∀ (l0 l1 l3 : Option Value) (x : Nat) (st : List Value) (σ : dS), den mL_law 235 [l0, l1, some (.ref x), l3] st σ = den mL_law 236 [l0, l1, some (.ref x), l3] (.ref x :: st) σ) ∧
  (∀ (l0 l1 l2 l3 : Option Value) (b0 : Int32) (q : Nat) (σ : dS), den mL_law 236 [l0, l1, l2, l3] [.ref q, .int b0] σ = if disO σ q 6 = true then ((dcall mX7_fault [.ref q] σ).bind fun r => den mL_law 239 [l0, l1, l2, l3] (r.1.toList ++ [.int b0]) r.2) else none) ∧
  (∀ (l0 l1 l2 l3 : Option Value) (x y : Int32) (st : List Value) (σ : dS), den mL_law 239 [l0, l1, l2, l3] (.int y :: .int x :: st) σ = if x = y then den mL_law 1057 [l0, l1, l2, l3] st σ else den mL_law 242 [l0, l1, l2, l3] st σ) ∧
  (∀ (l0 l1 l2 l3 : Option Value) (st : List Value) (σ : dS), den mL_law 242 [l0, l1, l2, l3] st σ = den mL_law 243 [l0, l1, l2, l3] (.int (nI 0) :: st) σ) ∧
  (∀ (l0 l1 l2 l3 : Option Value) (v : Int32) (σ : dS), den mL_law 243 [l0, l1, l2, l3] [.int v] σ = if v = 0 ∨ v = 1 then some (some (.int v), σ) else none) ∧
  (∀ (l0 l2 l3 : Option Value) (x : Nat) (st : List Value) (σ : dS), den mL_law 244 [l0, some (.ref x), l2, l3] st σ = den mL_law 245 [l0, some (.ref x), l2, l3] (.ref x :: st) σ) ∧
  (∀ (l1 l2 l3 : Option Value) (x : Nat) (st : List Value) (σ : dS), den mL_law 245 [some (.ref x), l1, l2, l3] st σ = den mL_law 246 [some (.ref x), l1, l2, l3] (.ref x :: st) σ) ∧
  (∀ (l0 l1 l2 : Option Value) (x : Int32) (st : List Value) (σ : dS), den mL_law 246 [l0, l1, l2, some (.int x)] st σ = den mL_law 247 [l0, l1, l2, some (.int x)] (.int x :: st) σ) ∧
  (∀ (l0 l1 l2 l3 : Option Value) (st : List Value) (σ : dS), den mL_law 247 [l0, l1, l2, l3] st σ = den mL_law 248 [l0, l1, l2, l3] (.int (nI 1) :: st) σ) ∧
  (∀ (l0 l1 l2 l3 : Option Value) (x y : Int32) (st : List Value) (σ : dS), den mL_law 248 [l0, l1, l2, l3] (.int y :: .int x :: st) σ = den mL_law 249 [l0, l1, l2, l3] (.int (x + y) :: st) σ) ∧
  (∀ (l0 l1 l2 l3 : Option Value) (q : Nat) (i : Int32) (st : List Value) (σ : dS), den mL_law 249 [l0, l1, l2, l3] (.int i :: .ref q :: st) σ = if q ≤ dN then (dald σ q 0 i).bind (fun v => den mL_law 250 [l0, l1, l2, l3] (.int v :: st) σ) else none) ∧
  (∀ (l0 l1 l2 l3 : Option Value) (a0 : Int32) (q : Nat) (σ : dS), den mL_law 250 [l0, l1, l2, l3] [.int a0, .ref q] σ = if disO σ q 5 = true then ((dcall mX6_rule [.ref q, .int a0] σ).bind fun r => den mL_law 253 [l0, l1, l2, l3] (r.1.toList ++ []) r.2) else none) ∧
  (∀ (l0 l1 l3 : Option Value) (x : Nat) (st : List Value) (σ : dS), den mL_law 253 [l0, l1, some (.ref x), l3] st σ = den mL_law 254 [l0, l1, some (.ref x), l3] (.ref x :: st) σ) ∧
  (∀ (l1 l2 l3 : Option Value) (x : Nat) (st : List Value) (σ : dS), den mL_law 254 [some (.ref x), l1, l2, l3] st σ = den mL_law 255 [some (.ref x), l1, l2, l3] (.ref x :: st) σ) ∧
  (∀ (l0 l1 l2 : Option Value) (x : Int32) (st : List Value) (σ : dS), den mL_law 255 [l0, l1, l2, some (.int x)] st σ = den mL_law 256 [l0, l1, l2, some (.int x)] (.int x :: st) σ) ∧
  (∀ (l0 l1 l2 l3 : Option Value) (st : List Value) (σ : dS), den mL_law 256 [l0, l1, l2, l3] st σ = den mL_law 257 [l0, l1, l2, l3] (.int (nI 1) :: st) σ) ∧
  (∀ (l0 l1 l2 l3 : Option Value) (x y : Int32) (st : List Value) (σ : dS), den mL_law 257 [l0, l1, l2, l3] (.int y :: .int x :: st) σ = den mL_law 258 [l0, l1, l2, l3] (.int (x + y) :: st) σ) ∧
  (∀ (l0 l1 l2 l3 : Option Value) (q : Nat) (i : Int32) (st : List Value) (σ : dS), den mL_law 258 [l0, l1, l2, l3] (.int i :: .ref q :: st) σ = if q ≤ dN then (dald σ q 0 i).bind (fun v => den mL_law 259 [l0, l1, l2, l3] (.int v :: st) σ) else none) ∧
  (∀ (l0 l1 l2 l3 : Option Value) (a0 : Int32) (b0 : Int32) (q : Nat) (σ : dS), den mL_law 259 [l0, l1, l2, l3] [.int a0, .ref q, .int b0] σ = if disO σ q 6 = true then ((dcall mX7_rule [.ref q, .int a0] σ).bind fun r => den mL_law 262 [l0, l1, l2, l3] (r.1.toList ++ [.int b0]) r.2) else none) ∧
  (∀ (l0 l1 l2 l3 : Option Value) (x y : Int32) (st : List Value) (σ : dS), den mL_law 262 [l0, l1, l2, l3] (.int y :: .int x :: st) σ = if x = y then den mL_law 1057 [l0, l1, l2, l3] st σ else den mL_law 265 [l0, l1, l2, l3] st σ) ∧
  (∀ (l0 l1 l2 l3 : Option Value) (st : List Value) (σ : dS), den mL_law 265 [l0, l1, l2, l3] st σ = den mL_law 266 [l0, l1, l2, l3] (.int (nI 0) :: st) σ) ∧
  (∀ (l0 l1 l2 l3 : Option Value) (v : Int32) (σ : dS), den mL_law 266 [l0, l1, l2, l3] [.int v] σ = if v = 0 ∨ v = 1 then some (some (.int v), σ) else none) ∧
  (∀ (l0 l2 l3 : Option Value) (x : Nat) (st : List Value) (σ : dS), den mL_law 267 [l0, some (.ref x), l2, l3] st σ = den mL_law 268 [l0, some (.ref x), l2, l3] (.ref x :: st) σ) ∧
  (∀ (l1 l2 l3 : Option Value) (x : Nat) (st : List Value) (σ : dS), den mL_law 268 [some (.ref x), l1, l2, l3] st σ = den mL_law 269 [some (.ref x), l1, l2, l3] (.ref x :: st) σ) ∧
  (∀ (l0 l1 l2 : Option Value) (x : Int32) (st : List Value) (σ : dS), den mL_law 269 [l0, l1, l2, some (.int x)] st σ = den mL_law 270 [l0, l1, l2, some (.int x)] (.int x :: st) σ) ∧
  (∀ (l0 l1 l2 l3 : Option Value) (st : List Value) (σ : dS), den mL_law 270 [l0, l1, l2, l3] st σ = den mL_law 271 [l0, l1, l2, l3] (.int (nI 1) :: st) σ) :=
  ⟨fun l0 l1 l2 l3 q i st σ => dn_iaload eL_law dL_law_209,
  fun l0 l1 l2 l3 a0 b0 q σ => rL_law_210 l0 l1 l2 l3 a0 b0 q σ,
  fun l0 l1 l2 l3 x y st σ => dn_icmp_eq eL_law dL_law_213 (by decide),
  fun l0 l1 l2 l3 st σ => dn_iconst eL_law dL_law_216 kc_iconst_0,
  fun l0 l1 l2 l3 v σ => dn_zreturn eL_law dL_law_217 rfl,
  fun l0 l2 l3 x st σ => dn_aload_n eL_law dL_law_218 rfl,
  fun l0 l1 l2 l3 q σ => rL_law_219 l0 l1 l2 l3 q σ,
  fun l0 l1 l3 x st σ => dn_aload_n eL_law dL_law_222 rfl,
  fun l0 l1 l2 l3 b0 q σ => rL_law_223 l0 l1 l2 l3 b0 q σ,
  fun l0 l1 l2 l3 x y st σ => dn_icmp_eq eL_law dL_law_226 (by decide),
  fun l0 l1 l2 l3 st σ => dn_iconst eL_law dL_law_229 kc_iconst_0,
  fun l0 l1 l2 l3 v σ => dn_zreturn eL_law dL_law_230 rfl,
  fun l0 l2 l3 x st σ => dn_aload_n eL_law dL_law_231 rfl,
  fun l0 l1 l2 l3 q σ => rL_law_232 l0 l1 l2 l3 q σ,
  fun l0 l1 l3 x st σ => dn_aload_n eL_law dL_law_235 rfl,
  fun l0 l1 l2 l3 b0 q σ => rL_law_236 l0 l1 l2 l3 b0 q σ,
  fun l0 l1 l2 l3 x y st σ => dn_icmp_eq eL_law dL_law_239 (by decide),
  fun l0 l1 l2 l3 st σ => dn_iconst eL_law dL_law_242 kc_iconst_0,
  fun l0 l1 l2 l3 v σ => dn_zreturn eL_law dL_law_243 rfl,
  fun l0 l2 l3 x st σ => dn_aload_n eL_law dL_law_244 rfl,
  fun l1 l2 l3 x st σ => dn_aload_n eL_law dL_law_245 rfl,
  fun l0 l1 l2 x st σ => dn_iload_n eL_law dL_law_246 rfl,
  fun l0 l1 l2 l3 st σ => dn_iconst eL_law dL_law_247 kc_iconst_1,
  fun l0 l1 l2 l3 x y st σ => dn_iadd eL_law dL_law_248,
  fun l0 l1 l2 l3 q i st σ => dn_iaload eL_law dL_law_249,
  fun l0 l1 l2 l3 a0 q σ => rL_law_250 l0 l1 l2 l3 a0 q σ,
  fun l0 l1 l3 x st σ => dn_aload_n eL_law dL_law_253 rfl,
  fun l1 l2 l3 x st σ => dn_aload_n eL_law dL_law_254 rfl,
  fun l0 l1 l2 x st σ => dn_iload_n eL_law dL_law_255 rfl,
  fun l0 l1 l2 l3 st σ => dn_iconst eL_law dL_law_256 kc_iconst_1,
  fun l0 l1 l2 l3 x y st σ => dn_iadd eL_law dL_law_257,
  fun l0 l1 l2 l3 q i st σ => dn_iaload eL_law dL_law_258,
  fun l0 l1 l2 l3 a0 b0 q σ => rL_law_259 l0 l1 l2 l3 a0 b0 q σ,
  fun l0 l1 l2 l3 x y st σ => dn_icmp_eq eL_law dL_law_262 (by decide),
  fun l0 l1 l2 l3 st σ => dn_iconst eL_law dL_law_265 kc_iconst_0,
  fun l0 l1 l2 l3 v σ => dn_zreturn eL_law dL_law_266 rfl,
  fun l0 l2 l3 x st σ => dn_aload_n eL_law dL_law_267 rfl,
  fun l1 l2 l3 x st σ => dn_aload_n eL_law dL_law_268 rfl,
  fun l0 l1 l2 x st σ => dn_iload_n eL_law dL_law_269 rfl,
  fun l0 l1 l2 l3 st σ => dn_iconst eL_law dL_law_270 kc_iconst_1⟩
set_option maxRecDepth 20000 in
theorem SL_law_2 : (∀ (l0 l1 l2 l3 : Option Value) (x y : Int32) (st : List Value) (σ : dS), den mL_law 271 [l0, l1, l2, l3] (.int y :: .int x :: st) σ = den mL_law 272 [l0, l1, l2, l3] (.int (x + y) :: st) σ) ∧
  (∀ (l0 l1 l2 l3 : Option Value) (q : Nat) (i : Int32) (st : List Value) (σ : dS), den mL_law 272 [l0, l1, l2, l3] (.int i :: .ref q :: st) σ = if q ≤ dN then (dald σ q 0 i).bind (fun v => den mL_law 273 [l0, l1, l2, l3] (.int v :: st) σ) else none) ∧
  (∀ (l1 l2 l3 : Option Value) (x : Nat) (st : List Value) (σ : dS), den mL_law 273 [some (.ref x), l1, l2, l3] st σ = den mL_law 274 [some (.ref x), l1, l2, l3] (.ref x :: st) σ) ∧
  (∀ (l0 l1 l2 : Option Value) (x : Int32) (st : List Value) (σ : dS), den mL_law 274 [l0, l1, l2, some (.int x)] st σ = den mL_law 275 [l0, l1, l2, some (.int x)] (.int x :: st) σ) ∧
  (∀ (l0 l1 l2 l3 : Option Value) (st : List Value) (σ : dS), den mL_law 275 [l0, l1, l2, l3] st σ = den mL_law 276 [l0, l1, l2, l3] (.int (nI 2) :: st) σ) ∧
  (∀ (l0 l1 l2 l3 : Option Value) (x y : Int32) (st : List Value) (σ : dS), den mL_law 276 [l0, l1, l2, l3] (.int y :: .int x :: st) σ = den mL_law 277 [l0, l1, l2, l3] (.int (x + y) :: st) σ) ∧
  (∀ (l0 l1 l2 l3 : Option Value) (q : Nat) (i : Int32) (st : List Value) (σ : dS), den mL_law 277 [l0, l1, l2, l3] (.int i :: .ref q :: st) σ = if q ≤ dN then (dald σ q 0 i).bind (fun v => den mL_law 278 [l0, l1, l2, l3] (.int v :: st) σ) else none) ∧
  (∀ (l0 l1 l2 l3 : Option Value) (a0 : Int32) (a1 : Int32) (q : Nat) (σ : dS), den mL_law 278 [l0, l1, l2, l3] [.int a1, .int a0, .ref q] σ = if disO σ q 5 = true then ((dcall mX6_code [.ref q, .int a0, .int a1] σ).bind fun r => den mL_law 281 [l0, l1, l2, l3] (r.1.toList ++ []) r.2) else none) ∧
  (∀ (l0 l1 l3 : Option Value) (x : Nat) (st : List Value) (σ : dS), den mL_law 281 [l0, l1, some (.ref x), l3] st σ = den mL_law 282 [l0, l1, some (.ref x), l3] (.ref x :: st) σ) ∧
  (∀ (l1 l2 l3 : Option Value) (x : Nat) (st : List Value) (σ : dS), den mL_law 282 [some (.ref x), l1, l2, l3] st σ = den mL_law 283 [some (.ref x), l1, l2, l3] (.ref x :: st) σ) ∧
  (∀ (l0 l1 l2 : Option Value) (x : Int32) (st : List Value) (σ : dS), den mL_law 283 [l0, l1, l2, some (.int x)] st σ = den mL_law 284 [l0, l1, l2, some (.int x)] (.int x :: st) σ) ∧
  (∀ (l0 l1 l2 l3 : Option Value) (st : List Value) (σ : dS), den mL_law 284 [l0, l1, l2, l3] st σ = den mL_law 285 [l0, l1, l2, l3] (.int (nI 1) :: st) σ) ∧
  (∀ (l0 l1 l2 l3 : Option Value) (x y : Int32) (st : List Value) (σ : dS), den mL_law 285 [l0, l1, l2, l3] (.int y :: .int x :: st) σ = den mL_law 286 [l0, l1, l2, l3] (.int (x + y) :: st) σ) ∧
  (∀ (l0 l1 l2 l3 : Option Value) (q : Nat) (i : Int32) (st : List Value) (σ : dS), den mL_law 286 [l0, l1, l2, l3] (.int i :: .ref q :: st) σ = if q ≤ dN then (dald σ q 0 i).bind (fun v => den mL_law 287 [l0, l1, l2, l3] (.int v :: st) σ) else none) ∧
  (∀ (l1 l2 l3 : Option Value) (x : Nat) (st : List Value) (σ : dS), den mL_law 287 [some (.ref x), l1, l2, l3] st σ = den mL_law 288 [some (.ref x), l1, l2, l3] (.ref x :: st) σ) ∧
  (∀ (l0 l1 l2 : Option Value) (x : Int32) (st : List Value) (σ : dS), den mL_law 288 [l0, l1, l2, some (.int x)] st σ = den mL_law 289 [l0, l1, l2, some (.int x)] (.int x :: st) σ) ∧
  (∀ (l0 l1 l2 l3 : Option Value) (st : List Value) (σ : dS), den mL_law 289 [l0, l1, l2, l3] st σ = den mL_law 290 [l0, l1, l2, l3] (.int (nI 2) :: st) σ) ∧
  (∀ (l0 l1 l2 l3 : Option Value) (x y : Int32) (st : List Value) (σ : dS), den mL_law 290 [l0, l1, l2, l3] (.int y :: .int x :: st) σ = den mL_law 291 [l0, l1, l2, l3] (.int (x + y) :: st) σ) ∧
  (∀ (l0 l1 l2 l3 : Option Value) (q : Nat) (i : Int32) (st : List Value) (σ : dS), den mL_law 291 [l0, l1, l2, l3] (.int i :: .ref q :: st) σ = if q ≤ dN then (dald σ q 0 i).bind (fun v => den mL_law 292 [l0, l1, l2, l3] (.int v :: st) σ) else none) ∧
  (∀ (l0 l1 l2 l3 : Option Value) (a0 : Int32) (a1 : Int32) (b0 : Int32) (q : Nat) (σ : dS), den mL_law 292 [l0, l1, l2, l3] [.int a1, .int a0, .ref q, .int b0] σ = if disO σ q 6 = true then ((dcall mX7_code [.ref q, .int a0, .int a1] σ).bind fun r => den mL_law 295 [l0, l1, l2, l3] (r.1.toList ++ [.int b0]) r.2) else none) ∧
  (∀ (l0 l1 l2 l3 : Option Value) (x y : Int32) (st : List Value) (σ : dS), den mL_law 295 [l0, l1, l2, l3] (.int y :: .int x :: st) σ = if x = y then den mL_law 1057 [l0, l1, l2, l3] st σ else den mL_law 298 [l0, l1, l2, l3] st σ) ∧
  (∀ (l0 l1 l2 l3 : Option Value) (st : List Value) (σ : dS), den mL_law 298 [l0, l1, l2, l3] st σ = den mL_law 299 [l0, l1, l2, l3] (.int (nI 0) :: st) σ) ∧
  (∀ (l0 l1 l2 l3 : Option Value) (v : Int32) (σ : dS), den mL_law 299 [l0, l1, l2, l3] [.int v] σ = if v = 0 ∨ v = 1 then some (some (.int v), σ) else none) ∧
  (∀ (l0 l2 l3 : Option Value) (x : Nat) (st : List Value) (σ : dS), den mL_law 300 [l0, some (.ref x), l2, l3] st σ = den mL_law 301 [l0, some (.ref x), l2, l3] (.ref x :: st) σ) ∧
  (∀ (l1 l2 l3 : Option Value) (x : Nat) (st : List Value) (σ : dS), den mL_law 301 [some (.ref x), l1, l2, l3] st σ = den mL_law 302 [some (.ref x), l1, l2, l3] (.ref x :: st) σ) ∧
  (∀ (l0 l1 l2 : Option Value) (x : Int32) (st : List Value) (σ : dS), den mL_law 302 [l0, l1, l2, some (.int x)] st σ = den mL_law 303 [l0, l1, l2, some (.int x)] (.int x :: st) σ) ∧
  (∀ (l0 l1 l2 l3 : Option Value) (st : List Value) (σ : dS), den mL_law 303 [l0, l1, l2, l3] st σ = den mL_law 304 [l0, l1, l2, l3] (.int (nI 1) :: st) σ) ∧
  (∀ (l0 l1 l2 l3 : Option Value) (x y : Int32) (st : List Value) (σ : dS), den mL_law 304 [l0, l1, l2, l3] (.int y :: .int x :: st) σ = den mL_law 305 [l0, l1, l2, l3] (.int (x + y) :: st) σ) ∧
  (∀ (l0 l1 l2 l3 : Option Value) (q : Nat) (i : Int32) (st : List Value) (σ : dS), den mL_law 305 [l0, l1, l2, l3] (.int i :: .ref q :: st) σ = if q ≤ dN then (dald σ q 0 i).bind (fun v => den mL_law 306 [l0, l1, l2, l3] (.int v :: st) σ) else none) ∧
  (∀ (l1 l2 l3 : Option Value) (x : Nat) (st : List Value) (σ : dS), den mL_law 306 [some (.ref x), l1, l2, l3] st σ = den mL_law 307 [some (.ref x), l1, l2, l3] (.ref x :: st) σ) ∧
  (∀ (l0 l1 l2 : Option Value) (x : Int32) (st : List Value) (σ : dS), den mL_law 307 [l0, l1, l2, some (.int x)] st σ = den mL_law 308 [l0, l1, l2, some (.int x)] (.int x :: st) σ) ∧
  (∀ (l0 l1 l2 l3 : Option Value) (st : List Value) (σ : dS), den mL_law 308 [l0, l1, l2, l3] st σ = den mL_law 309 [l0, l1, l2, l3] (.int (nI 2) :: st) σ) ∧
  (∀ (l0 l1 l2 l3 : Option Value) (x y : Int32) (st : List Value) (σ : dS), den mL_law 309 [l0, l1, l2, l3] (.int y :: .int x :: st) σ = den mL_law 310 [l0, l1, l2, l3] (.int (x + y) :: st) σ) ∧
  (∀ (l0 l1 l2 l3 : Option Value) (q : Nat) (i : Int32) (st : List Value) (σ : dS), den mL_law 310 [l0, l1, l2, l3] (.int i :: .ref q :: st) σ = if q ≤ dN then (dald σ q 0 i).bind (fun v => den mL_law 311 [l0, l1, l2, l3] (.int v :: st) σ) else none) ∧
  (∀ (l0 l1 l2 l3 : Option Value) (a0 : Int32) (a1 : Int32) (q : Nat) (σ : dS), den mL_law 311 [l0, l1, l2, l3] [.int a1, .int a0, .ref q] σ = if disO σ q 5 = true then ((dcall mX6_guard [.ref q, .int a0, .int a1] σ).bind fun r => den mL_law 314 [l0, l1, l2, l3] (r.1.toList ++ []) r.2) else none) ∧
  (∀ (l0 l1 l3 : Option Value) (x : Nat) (st : List Value) (σ : dS), den mL_law 314 [l0, l1, some (.ref x), l3] st σ = den mL_law 315 [l0, l1, some (.ref x), l3] (.ref x :: st) σ) ∧
  (∀ (l1 l2 l3 : Option Value) (x : Nat) (st : List Value) (σ : dS), den mL_law 315 [some (.ref x), l1, l2, l3] st σ = den mL_law 316 [some (.ref x), l1, l2, l3] (.ref x :: st) σ) ∧
  (∀ (l0 l1 l2 : Option Value) (x : Int32) (st : List Value) (σ : dS), den mL_law 316 [l0, l1, l2, some (.int x)] st σ = den mL_law 317 [l0, l1, l2, some (.int x)] (.int x :: st) σ) ∧
  (∀ (l0 l1 l2 l3 : Option Value) (st : List Value) (σ : dS), den mL_law 317 [l0, l1, l2, l3] st σ = den mL_law 318 [l0, l1, l2, l3] (.int (nI 1) :: st) σ) ∧
  (∀ (l0 l1 l2 l3 : Option Value) (x y : Int32) (st : List Value) (σ : dS), den mL_law 318 [l0, l1, l2, l3] (.int y :: .int x :: st) σ = den mL_law 319 [l0, l1, l2, l3] (.int (x + y) :: st) σ) :=
  ⟨fun l0 l1 l2 l3 x y st σ => dn_iadd eL_law dL_law_271,
  fun l0 l1 l2 l3 q i st σ => dn_iaload eL_law dL_law_272,
  fun l1 l2 l3 x st σ => dn_aload_n eL_law dL_law_273 rfl,
  fun l0 l1 l2 x st σ => dn_iload_n eL_law dL_law_274 rfl,
  fun l0 l1 l2 l3 st σ => dn_iconst eL_law dL_law_275 kc_iconst_2,
  fun l0 l1 l2 l3 x y st σ => dn_iadd eL_law dL_law_276,
  fun l0 l1 l2 l3 q i st σ => dn_iaload eL_law dL_law_277,
  fun l0 l1 l2 l3 a0 a1 q σ => rL_law_278 l0 l1 l2 l3 a0 a1 q σ,
  fun l0 l1 l3 x st σ => dn_aload_n eL_law dL_law_281 rfl,
  fun l1 l2 l3 x st σ => dn_aload_n eL_law dL_law_282 rfl,
  fun l0 l1 l2 x st σ => dn_iload_n eL_law dL_law_283 rfl,
  fun l0 l1 l2 l3 st σ => dn_iconst eL_law dL_law_284 kc_iconst_1,
  fun l0 l1 l2 l3 x y st σ => dn_iadd eL_law dL_law_285,
  fun l0 l1 l2 l3 q i st σ => dn_iaload eL_law dL_law_286,
  fun l1 l2 l3 x st σ => dn_aload_n eL_law dL_law_287 rfl,
  fun l0 l1 l2 x st σ => dn_iload_n eL_law dL_law_288 rfl,
  fun l0 l1 l2 l3 st σ => dn_iconst eL_law dL_law_289 kc_iconst_2,
  fun l0 l1 l2 l3 x y st σ => dn_iadd eL_law dL_law_290,
  fun l0 l1 l2 l3 q i st σ => dn_iaload eL_law dL_law_291,
  fun l0 l1 l2 l3 a0 a1 b0 q σ => rL_law_292 l0 l1 l2 l3 a0 a1 b0 q σ,
  fun l0 l1 l2 l3 x y st σ => dn_icmp_eq eL_law dL_law_295 (by decide),
  fun l0 l1 l2 l3 st σ => dn_iconst eL_law dL_law_298 kc_iconst_0,
  fun l0 l1 l2 l3 v σ => dn_zreturn eL_law dL_law_299 rfl,
  fun l0 l2 l3 x st σ => dn_aload_n eL_law dL_law_300 rfl,
  fun l1 l2 l3 x st σ => dn_aload_n eL_law dL_law_301 rfl,
  fun l0 l1 l2 x st σ => dn_iload_n eL_law dL_law_302 rfl,
  fun l0 l1 l2 l3 st σ => dn_iconst eL_law dL_law_303 kc_iconst_1,
  fun l0 l1 l2 l3 x y st σ => dn_iadd eL_law dL_law_304,
  fun l0 l1 l2 l3 q i st σ => dn_iaload eL_law dL_law_305,
  fun l1 l2 l3 x st σ => dn_aload_n eL_law dL_law_306 rfl,
  fun l0 l1 l2 x st σ => dn_iload_n eL_law dL_law_307 rfl,
  fun l0 l1 l2 l3 st σ => dn_iconst eL_law dL_law_308 kc_iconst_2,
  fun l0 l1 l2 l3 x y st σ => dn_iadd eL_law dL_law_309,
  fun l0 l1 l2 l3 q i st σ => dn_iaload eL_law dL_law_310,
  fun l0 l1 l2 l3 a0 a1 q σ => rL_law_311 l0 l1 l2 l3 a0 a1 q σ,
  fun l0 l1 l3 x st σ => dn_aload_n eL_law dL_law_314 rfl,
  fun l1 l2 l3 x st σ => dn_aload_n eL_law dL_law_315 rfl,
  fun l0 l1 l2 x st σ => dn_iload_n eL_law dL_law_316 rfl,
  fun l0 l1 l2 l3 st σ => dn_iconst eL_law dL_law_317 kc_iconst_1,
  fun l0 l1 l2 l3 x y st σ => dn_iadd eL_law dL_law_318⟩
set_option maxRecDepth 20000 in
theorem SL_law_3 : (∀ (l0 l1 l2 l3 : Option Value) (q : Nat) (i : Int32) (st : List Value) (σ : dS), den mL_law 319 [l0, l1, l2, l3] (.int i :: .ref q :: st) σ = if q ≤ dN then (dald σ q 0 i).bind (fun v => den mL_law 320 [l0, l1, l2, l3] (.int v :: st) σ) else none) ∧
  (∀ (l1 l2 l3 : Option Value) (x : Nat) (st : List Value) (σ : dS), den mL_law 320 [some (.ref x), l1, l2, l3] st σ = den mL_law 321 [some (.ref x), l1, l2, l3] (.ref x :: st) σ) ∧
  (∀ (l0 l1 l2 : Option Value) (x : Int32) (st : List Value) (σ : dS), den mL_law 321 [l0, l1, l2, some (.int x)] st σ = den mL_law 322 [l0, l1, l2, some (.int x)] (.int x :: st) σ) ∧
  (∀ (l0 l1 l2 l3 : Option Value) (st : List Value) (σ : dS), den mL_law 322 [l0, l1, l2, l3] st σ = den mL_law 323 [l0, l1, l2, l3] (.int (nI 2) :: st) σ) ∧
  (∀ (l0 l1 l2 l3 : Option Value) (x y : Int32) (st : List Value) (σ : dS), den mL_law 323 [l0, l1, l2, l3] (.int y :: .int x :: st) σ = den mL_law 324 [l0, l1, l2, l3] (.int (x + y) :: st) σ) ∧
  (∀ (l0 l1 l2 l3 : Option Value) (q : Nat) (i : Int32) (st : List Value) (σ : dS), den mL_law 324 [l0, l1, l2, l3] (.int i :: .ref q :: st) σ = if q ≤ dN then (dald σ q 0 i).bind (fun v => den mL_law 325 [l0, l1, l2, l3] (.int v :: st) σ) else none) ∧
  (∀ (l0 l1 l2 l3 : Option Value) (a0 : Int32) (a1 : Int32) (b0 : Int32) (q : Nat) (σ : dS), den mL_law 325 [l0, l1, l2, l3] [.int a1, .int a0, .ref q, .int b0] σ = if disO σ q 6 = true then ((dcall mX7_guard [.ref q, .int a0, .int a1] σ).bind fun r => den mL_law 328 [l0, l1, l2, l3] (r.1.toList ++ [.int b0]) r.2) else none) ∧
  (∀ (l0 l1 l2 l3 : Option Value) (x y : Int32) (st : List Value) (σ : dS), den mL_law 328 [l0, l1, l2, l3] (.int y :: .int x :: st) σ = if x = y then den mL_law 1057 [l0, l1, l2, l3] st σ else den mL_law 331 [l0, l1, l2, l3] st σ) ∧
  (∀ (l0 l1 l2 l3 : Option Value) (st : List Value) (σ : dS), den mL_law 331 [l0, l1, l2, l3] st σ = den mL_law 332 [l0, l1, l2, l3] (.int (nI 0) :: st) σ) ∧
  (∀ (l0 l1 l2 l3 : Option Value) (v : Int32) (σ : dS), den mL_law 332 [l0, l1, l2, l3] [.int v] σ = if v = 0 ∨ v = 1 then some (some (.int v), σ) else none) ∧
  (∀ (l0 l2 l3 : Option Value) (x : Nat) (st : List Value) (σ : dS), den mL_law 333 [l0, some (.ref x), l2, l3] st σ = den mL_law 334 [l0, some (.ref x), l2, l3] (.ref x :: st) σ) ∧
  (∀ (l1 l2 l3 : Option Value) (x : Nat) (st : List Value) (σ : dS), den mL_law 334 [some (.ref x), l1, l2, l3] st σ = den mL_law 335 [some (.ref x), l1, l2, l3] (.ref x :: st) σ) ∧
  (∀ (l0 l1 l2 : Option Value) (x : Int32) (st : List Value) (σ : dS), den mL_law 335 [l0, l1, l2, some (.int x)] st σ = den mL_law 336 [l0, l1, l2, some (.int x)] (.int x :: st) σ) ∧
  (∀ (l0 l1 l2 l3 : Option Value) (st : List Value) (σ : dS), den mL_law 336 [l0, l1, l2, l3] st σ = den mL_law 337 [l0, l1, l2, l3] (.int (nI 1) :: st) σ) ∧
  (∀ (l0 l1 l2 l3 : Option Value) (x y : Int32) (st : List Value) (σ : dS), den mL_law 337 [l0, l1, l2, l3] (.int y :: .int x :: st) σ = den mL_law 338 [l0, l1, l2, l3] (.int (x + y) :: st) σ) ∧
  (∀ (l0 l1 l2 l3 : Option Value) (q : Nat) (i : Int32) (st : List Value) (σ : dS), den mL_law 338 [l0, l1, l2, l3] (.int i :: .ref q :: st) σ = if q ≤ dN then (dald σ q 0 i).bind (fun v => den mL_law 339 [l0, l1, l2, l3] (.int v :: st) σ) else none) ∧
  (∀ (l1 l2 l3 : Option Value) (x : Nat) (st : List Value) (σ : dS), den mL_law 339 [some (.ref x), l1, l2, l3] st σ = den mL_law 340 [some (.ref x), l1, l2, l3] (.ref x :: st) σ) ∧
  (∀ (l0 l1 l2 : Option Value) (x : Int32) (st : List Value) (σ : dS), den mL_law 340 [l0, l1, l2, some (.int x)] st σ = den mL_law 341 [l0, l1, l2, some (.int x)] (.int x :: st) σ) ∧
  (∀ (l0 l1 l2 l3 : Option Value) (st : List Value) (σ : dS), den mL_law 341 [l0, l1, l2, l3] st σ = den mL_law 342 [l0, l1, l2, l3] (.int (nI 2) :: st) σ) ∧
  (∀ (l0 l1 l2 l3 : Option Value) (x y : Int32) (st : List Value) (σ : dS), den mL_law 342 [l0, l1, l2, l3] (.int y :: .int x :: st) σ = den mL_law 343 [l0, l1, l2, l3] (.int (x + y) :: st) σ) ∧
  (∀ (l0 l1 l2 l3 : Option Value) (q : Nat) (i : Int32) (st : List Value) (σ : dS), den mL_law 343 [l0, l1, l2, l3] (.int i :: .ref q :: st) σ = if q ≤ dN then (dald σ q 0 i).bind (fun v => den mL_law 344 [l0, l1, l2, l3] (.int v :: st) σ) else none) ∧
  (∀ (l0 l1 l2 l3 : Option Value) (a0 : Int32) (a1 : Int32) (q : Nat) (σ : dS), den mL_law 344 [l0, l1, l2, l3] [.int a1, .int a0, .ref q] σ = if disO σ q 5 = true then ((dcall mX6_within [.ref q, .int a0, .int a1] σ).bind fun r => den mL_law 347 [l0, l1, l2, l3] (r.1.toList ++ []) r.2) else none) ∧
  (∀ (l0 l1 l3 : Option Value) (x : Nat) (st : List Value) (σ : dS), den mL_law 347 [l0, l1, some (.ref x), l3] st σ = den mL_law 348 [l0, l1, some (.ref x), l3] (.ref x :: st) σ) ∧
  (∀ (l1 l2 l3 : Option Value) (x : Nat) (st : List Value) (σ : dS), den mL_law 348 [some (.ref x), l1, l2, l3] st σ = den mL_law 349 [some (.ref x), l1, l2, l3] (.ref x :: st) σ) ∧
  (∀ (l0 l1 l2 : Option Value) (x : Int32) (st : List Value) (σ : dS), den mL_law 349 [l0, l1, l2, some (.int x)] st σ = den mL_law 350 [l0, l1, l2, some (.int x)] (.int x :: st) σ) ∧
  (∀ (l0 l1 l2 l3 : Option Value) (st : List Value) (σ : dS), den mL_law 350 [l0, l1, l2, l3] st σ = den mL_law 351 [l0, l1, l2, l3] (.int (nI 1) :: st) σ) ∧
  (∀ (l0 l1 l2 l3 : Option Value) (x y : Int32) (st : List Value) (σ : dS), den mL_law 351 [l0, l1, l2, l3] (.int y :: .int x :: st) σ = den mL_law 352 [l0, l1, l2, l3] (.int (x + y) :: st) σ) ∧
  (∀ (l0 l1 l2 l3 : Option Value) (q : Nat) (i : Int32) (st : List Value) (σ : dS), den mL_law 352 [l0, l1, l2, l3] (.int i :: .ref q :: st) σ = if q ≤ dN then (dald σ q 0 i).bind (fun v => den mL_law 353 [l0, l1, l2, l3] (.int v :: st) σ) else none) ∧
  (∀ (l1 l2 l3 : Option Value) (x : Nat) (st : List Value) (σ : dS), den mL_law 353 [some (.ref x), l1, l2, l3] st σ = den mL_law 354 [some (.ref x), l1, l2, l3] (.ref x :: st) σ) ∧
  (∀ (l0 l1 l2 : Option Value) (x : Int32) (st : List Value) (σ : dS), den mL_law 354 [l0, l1, l2, some (.int x)] st σ = den mL_law 355 [l0, l1, l2, some (.int x)] (.int x :: st) σ) ∧
  (∀ (l0 l1 l2 l3 : Option Value) (st : List Value) (σ : dS), den mL_law 355 [l0, l1, l2, l3] st σ = den mL_law 356 [l0, l1, l2, l3] (.int (nI 2) :: st) σ) ∧
  (∀ (l0 l1 l2 l3 : Option Value) (x y : Int32) (st : List Value) (σ : dS), den mL_law 356 [l0, l1, l2, l3] (.int y :: .int x :: st) σ = den mL_law 357 [l0, l1, l2, l3] (.int (x + y) :: st) σ) ∧
  (∀ (l0 l1 l2 l3 : Option Value) (q : Nat) (i : Int32) (st : List Value) (σ : dS), den mL_law 357 [l0, l1, l2, l3] (.int i :: .ref q :: st) σ = if q ≤ dN then (dald σ q 0 i).bind (fun v => den mL_law 358 [l0, l1, l2, l3] (.int v :: st) σ) else none) ∧
  (∀ (l0 l1 l2 l3 : Option Value) (a0 : Int32) (a1 : Int32) (b0 : Int32) (q : Nat) (σ : dS), den mL_law 358 [l0, l1, l2, l3] [.int a1, .int a0, .ref q, .int b0] σ = if disO σ q 6 = true then ((dcall mX7_within [.ref q, .int a0, .int a1] σ).bind fun r => den mL_law 361 [l0, l1, l2, l3] (r.1.toList ++ [.int b0]) r.2) else none) ∧
  (∀ (l0 l1 l2 l3 : Option Value) (x y : Int32) (st : List Value) (σ : dS), den mL_law 361 [l0, l1, l2, l3] (.int y :: .int x :: st) σ = if x = y then den mL_law 1057 [l0, l1, l2, l3] st σ else den mL_law 364 [l0, l1, l2, l3] st σ) ∧
  (∀ (l0 l1 l2 l3 : Option Value) (st : List Value) (σ : dS), den mL_law 364 [l0, l1, l2, l3] st σ = den mL_law 365 [l0, l1, l2, l3] (.int (nI 0) :: st) σ) ∧
  (∀ (l0 l1 l2 l3 : Option Value) (v : Int32) (σ : dS), den mL_law 365 [l0, l1, l2, l3] [.int v] σ = if v = 0 ∨ v = 1 then some (some (.int v), σ) else none) ∧
  (∀ (l0 l2 l3 : Option Value) (x : Nat) (st : List Value) (σ : dS), den mL_law 366 [l0, some (.ref x), l2, l3] st σ = den mL_law 367 [l0, some (.ref x), l2, l3] (.ref x :: st) σ) ∧
  (∀ (l1 l2 l3 : Option Value) (x : Nat) (st : List Value) (σ : dS), den mL_law 367 [some (.ref x), l1, l2, l3] st σ = den mL_law 368 [some (.ref x), l1, l2, l3] (.ref x :: st) σ) ∧
  (∀ (l0 l1 l2 : Option Value) (x : Int32) (st : List Value) (σ : dS), den mL_law 368 [l0, l1, l2, some (.int x)] st σ = den mL_law 369 [l0, l1, l2, some (.int x)] (.int x :: st) σ) :=
  ⟨fun l0 l1 l2 l3 q i st σ => dn_iaload eL_law dL_law_319,
  fun l1 l2 l3 x st σ => dn_aload_n eL_law dL_law_320 rfl,
  fun l0 l1 l2 x st σ => dn_iload_n eL_law dL_law_321 rfl,
  fun l0 l1 l2 l3 st σ => dn_iconst eL_law dL_law_322 kc_iconst_2,
  fun l0 l1 l2 l3 x y st σ => dn_iadd eL_law dL_law_323,
  fun l0 l1 l2 l3 q i st σ => dn_iaload eL_law dL_law_324,
  fun l0 l1 l2 l3 a0 a1 b0 q σ => rL_law_325 l0 l1 l2 l3 a0 a1 b0 q σ,
  fun l0 l1 l2 l3 x y st σ => dn_icmp_eq eL_law dL_law_328 (by decide),
  fun l0 l1 l2 l3 st σ => dn_iconst eL_law dL_law_331 kc_iconst_0,
  fun l0 l1 l2 l3 v σ => dn_zreturn eL_law dL_law_332 rfl,
  fun l0 l2 l3 x st σ => dn_aload_n eL_law dL_law_333 rfl,
  fun l1 l2 l3 x st σ => dn_aload_n eL_law dL_law_334 rfl,
  fun l0 l1 l2 x st σ => dn_iload_n eL_law dL_law_335 rfl,
  fun l0 l1 l2 l3 st σ => dn_iconst eL_law dL_law_336 kc_iconst_1,
  fun l0 l1 l2 l3 x y st σ => dn_iadd eL_law dL_law_337,
  fun l0 l1 l2 l3 q i st σ => dn_iaload eL_law dL_law_338,
  fun l1 l2 l3 x st σ => dn_aload_n eL_law dL_law_339 rfl,
  fun l0 l1 l2 x st σ => dn_iload_n eL_law dL_law_340 rfl,
  fun l0 l1 l2 l3 st σ => dn_iconst eL_law dL_law_341 kc_iconst_2,
  fun l0 l1 l2 l3 x y st σ => dn_iadd eL_law dL_law_342,
  fun l0 l1 l2 l3 q i st σ => dn_iaload eL_law dL_law_343,
  fun l0 l1 l2 l3 a0 a1 q σ => rL_law_344 l0 l1 l2 l3 a0 a1 q σ,
  fun l0 l1 l3 x st σ => dn_aload_n eL_law dL_law_347 rfl,
  fun l1 l2 l3 x st σ => dn_aload_n eL_law dL_law_348 rfl,
  fun l0 l1 l2 x st σ => dn_iload_n eL_law dL_law_349 rfl,
  fun l0 l1 l2 l3 st σ => dn_iconst eL_law dL_law_350 kc_iconst_1,
  fun l0 l1 l2 l3 x y st σ => dn_iadd eL_law dL_law_351,
  fun l0 l1 l2 l3 q i st σ => dn_iaload eL_law dL_law_352,
  fun l1 l2 l3 x st σ => dn_aload_n eL_law dL_law_353 rfl,
  fun l0 l1 l2 x st σ => dn_iload_n eL_law dL_law_354 rfl,
  fun l0 l1 l2 l3 st σ => dn_iconst eL_law dL_law_355 kc_iconst_2,
  fun l0 l1 l2 l3 x y st σ => dn_iadd eL_law dL_law_356,
  fun l0 l1 l2 l3 q i st σ => dn_iaload eL_law dL_law_357,
  fun l0 l1 l2 l3 a0 a1 b0 q σ => rL_law_358 l0 l1 l2 l3 a0 a1 b0 q σ,
  fun l0 l1 l2 l3 x y st σ => dn_icmp_eq eL_law dL_law_361 (by decide),
  fun l0 l1 l2 l3 st σ => dn_iconst eL_law dL_law_364 kc_iconst_0,
  fun l0 l1 l2 l3 v σ => dn_zreturn eL_law dL_law_365 rfl,
  fun l0 l2 l3 x st σ => dn_aload_n eL_law dL_law_366 rfl,
  fun l1 l2 l3 x st σ => dn_aload_n eL_law dL_law_367 rfl,
  fun l0 l1 l2 x st σ => dn_iload_n eL_law dL_law_368 rfl⟩
set_option maxRecDepth 20000 in
theorem SL_law_4 : (∀ (l0 l1 l2 l3 : Option Value) (st : List Value) (σ : dS), den mL_law 369 [l0, l1, l2, l3] st σ = den mL_law 370 [l0, l1, l2, l3] (.int (nI 1) :: st) σ) ∧
  (∀ (l0 l1 l2 l3 : Option Value) (x y : Int32) (st : List Value) (σ : dS), den mL_law 370 [l0, l1, l2, l3] (.int y :: .int x :: st) σ = den mL_law 371 [l0, l1, l2, l3] (.int (x + y) :: st) σ) ∧
  (∀ (l0 l1 l2 l3 : Option Value) (q : Nat) (i : Int32) (st : List Value) (σ : dS), den mL_law 371 [l0, l1, l2, l3] (.int i :: .ref q :: st) σ = if q ≤ dN then (dald σ q 0 i).bind (fun v => den mL_law 372 [l0, l1, l2, l3] (.int v :: st) σ) else none) ∧
  (∀ (l1 l2 l3 : Option Value) (x : Nat) (st : List Value) (σ : dS), den mL_law 372 [some (.ref x), l1, l2, l3] st σ = den mL_law 373 [some (.ref x), l1, l2, l3] (.ref x :: st) σ) ∧
  (∀ (l0 l1 l2 : Option Value) (x : Int32) (st : List Value) (σ : dS), den mL_law 373 [l0, l1, l2, some (.int x)] st σ = den mL_law 374 [l0, l1, l2, some (.int x)] (.int x :: st) σ) ∧
  (∀ (l0 l1 l2 l3 : Option Value) (st : List Value) (σ : dS), den mL_law 374 [l0, l1, l2, l3] st σ = den mL_law 375 [l0, l1, l2, l3] (.int (nI 2) :: st) σ) ∧
  (∀ (l0 l1 l2 l3 : Option Value) (x y : Int32) (st : List Value) (σ : dS), den mL_law 375 [l0, l1, l2, l3] (.int y :: .int x :: st) σ = den mL_law 376 [l0, l1, l2, l3] (.int (x + y) :: st) σ) ∧
  (∀ (l0 l1 l2 l3 : Option Value) (q : Nat) (i : Int32) (st : List Value) (σ : dS), den mL_law 376 [l0, l1, l2, l3] (.int i :: .ref q :: st) σ = if q ≤ dN then (dald σ q 0 i).bind (fun v => den mL_law 377 [l0, l1, l2, l3] (.int v :: st) σ) else none) ∧
  (∀ (l0 l1 l2 l3 : Option Value) (a0 : Int32) (a1 : Int32) (q : Nat) (σ : dS), den mL_law 377 [l0, l1, l2, l3] [.int a1, .int a0, .ref q] σ = if disO σ q 5 = true then ((dcall mX6_apart [.ref q, .int a0, .int a1] σ).bind fun r => den mL_law 380 [l0, l1, l2, l3] (r.1.toList ++ []) r.2) else none) ∧
  (∀ (l0 l1 l3 : Option Value) (x : Nat) (st : List Value) (σ : dS), den mL_law 380 [l0, l1, some (.ref x), l3] st σ = den mL_law 381 [l0, l1, some (.ref x), l3] (.ref x :: st) σ) ∧
  (∀ (l1 l2 l3 : Option Value) (x : Nat) (st : List Value) (σ : dS), den mL_law 381 [some (.ref x), l1, l2, l3] st σ = den mL_law 382 [some (.ref x), l1, l2, l3] (.ref x :: st) σ) ∧
  (∀ (l0 l1 l2 : Option Value) (x : Int32) (st : List Value) (σ : dS), den mL_law 382 [l0, l1, l2, some (.int x)] st σ = den mL_law 383 [l0, l1, l2, some (.int x)] (.int x :: st) σ) ∧
  (∀ (l0 l1 l2 l3 : Option Value) (st : List Value) (σ : dS), den mL_law 383 [l0, l1, l2, l3] st σ = den mL_law 384 [l0, l1, l2, l3] (.int (nI 1) :: st) σ) ∧
  (∀ (l0 l1 l2 l3 : Option Value) (x y : Int32) (st : List Value) (σ : dS), den mL_law 384 [l0, l1, l2, l3] (.int y :: .int x :: st) σ = den mL_law 385 [l0, l1, l2, l3] (.int (x + y) :: st) σ) ∧
  (∀ (l0 l1 l2 l3 : Option Value) (q : Nat) (i : Int32) (st : List Value) (σ : dS), den mL_law 385 [l0, l1, l2, l3] (.int i :: .ref q :: st) σ = if q ≤ dN then (dald σ q 0 i).bind (fun v => den mL_law 386 [l0, l1, l2, l3] (.int v :: st) σ) else none) ∧
  (∀ (l1 l2 l3 : Option Value) (x : Nat) (st : List Value) (σ : dS), den mL_law 386 [some (.ref x), l1, l2, l3] st σ = den mL_law 387 [some (.ref x), l1, l2, l3] (.ref x :: st) σ) ∧
  (∀ (l0 l1 l2 : Option Value) (x : Int32) (st : List Value) (σ : dS), den mL_law 387 [l0, l1, l2, some (.int x)] st σ = den mL_law 388 [l0, l1, l2, some (.int x)] (.int x :: st) σ) ∧
  (∀ (l0 l1 l2 l3 : Option Value) (st : List Value) (σ : dS), den mL_law 388 [l0, l1, l2, l3] st σ = den mL_law 389 [l0, l1, l2, l3] (.int (nI 2) :: st) σ) ∧
  (∀ (l0 l1 l2 l3 : Option Value) (x y : Int32) (st : List Value) (σ : dS), den mL_law 389 [l0, l1, l2, l3] (.int y :: .int x :: st) σ = den mL_law 390 [l0, l1, l2, l3] (.int (x + y) :: st) σ) ∧
  (∀ (l0 l1 l2 l3 : Option Value) (q : Nat) (i : Int32) (st : List Value) (σ : dS), den mL_law 390 [l0, l1, l2, l3] (.int i :: .ref q :: st) σ = if q ≤ dN then (dald σ q 0 i).bind (fun v => den mL_law 391 [l0, l1, l2, l3] (.int v :: st) σ) else none) ∧
  (∀ (l0 l1 l2 l3 : Option Value) (a0 : Int32) (a1 : Int32) (b0 : Int32) (q : Nat) (σ : dS), den mL_law 391 [l0, l1, l2, l3] [.int a1, .int a0, .ref q, .int b0] σ = if disO σ q 6 = true then ((dcall mX7_apart [.ref q, .int a0, .int a1] σ).bind fun r => den mL_law 394 [l0, l1, l2, l3] (r.1.toList ++ [.int b0]) r.2) else none) ∧
  (∀ (l0 l1 l2 l3 : Option Value) (x y : Int32) (st : List Value) (σ : dS), den mL_law 394 [l0, l1, l2, l3] (.int y :: .int x :: st) σ = if x = y then den mL_law 1057 [l0, l1, l2, l3] st σ else den mL_law 397 [l0, l1, l2, l3] st σ) ∧
  (∀ (l0 l1 l2 l3 : Option Value) (st : List Value) (σ : dS), den mL_law 397 [l0, l1, l2, l3] st σ = den mL_law 398 [l0, l1, l2, l3] (.int (nI 0) :: st) σ) ∧
  (∀ (l0 l1 l2 l3 : Option Value) (v : Int32) (σ : dS), den mL_law 398 [l0, l1, l2, l3] [.int v] σ = if v = 0 ∨ v = 1 then some (some (.int v), σ) else none) ∧
  (∀ (l0 l2 l3 : Option Value) (x : Nat) (st : List Value) (σ : dS), den mL_law 399 [l0, some (.ref x), l2, l3] st σ = den mL_law 400 [l0, some (.ref x), l2, l3] (.ref x :: st) σ) ∧
  (∀ (l1 l2 l3 : Option Value) (x : Nat) (st : List Value) (σ : dS), den mL_law 400 [some (.ref x), l1, l2, l3] st σ = den mL_law 401 [some (.ref x), l1, l2, l3] (.ref x :: st) σ) ∧
  (∀ (l0 l1 l2 : Option Value) (x : Int32) (st : List Value) (σ : dS), den mL_law 401 [l0, l1, l2, some (.int x)] st σ = den mL_law 402 [l0, l1, l2, some (.int x)] (.int x :: st) σ) ∧
  (∀ (l0 l1 l2 l3 : Option Value) (st : List Value) (σ : dS), den mL_law 402 [l0, l1, l2, l3] st σ = den mL_law 403 [l0, l1, l2, l3] (.int (nI 1) :: st) σ) ∧
  (∀ (l0 l1 l2 l3 : Option Value) (x y : Int32) (st : List Value) (σ : dS), den mL_law 403 [l0, l1, l2, l3] (.int y :: .int x :: st) σ = den mL_law 404 [l0, l1, l2, l3] (.int (x + y) :: st) σ) ∧
  (∀ (l0 l1 l2 l3 : Option Value) (q : Nat) (i : Int32) (st : List Value) (σ : dS), den mL_law 404 [l0, l1, l2, l3] (.int i :: .ref q :: st) σ = if q ≤ dN then (dald σ q 0 i).bind (fun v => den mL_law 405 [l0, l1, l2, l3] (.int v :: st) σ) else none) ∧
  (∀ (l1 l2 l3 : Option Value) (x : Nat) (st : List Value) (σ : dS), den mL_law 405 [some (.ref x), l1, l2, l3] st σ = den mL_law 406 [some (.ref x), l1, l2, l3] (.ref x :: st) σ) ∧
  (∀ (l0 l1 l2 : Option Value) (x : Int32) (st : List Value) (σ : dS), den mL_law 406 [l0, l1, l2, some (.int x)] st σ = den mL_law 407 [l0, l1, l2, some (.int x)] (.int x :: st) σ) ∧
  (∀ (l0 l1 l2 l3 : Option Value) (st : List Value) (σ : dS), den mL_law 407 [l0, l1, l2, l3] st σ = den mL_law 408 [l0, l1, l2, l3] (.int (nI 2) :: st) σ) ∧
  (∀ (l0 l1 l2 l3 : Option Value) (x y : Int32) (st : List Value) (σ : dS), den mL_law 408 [l0, l1, l2, l3] (.int y :: .int x :: st) σ = den mL_law 409 [l0, l1, l2, l3] (.int (x + y) :: st) σ) ∧
  (∀ (l0 l1 l2 l3 : Option Value) (q : Nat) (i : Int32) (st : List Value) (σ : dS), den mL_law 409 [l0, l1, l2, l3] (.int i :: .ref q :: st) σ = if q ≤ dN then (dald σ q 0 i).bind (fun v => den mL_law 410 [l0, l1, l2, l3] (.int v :: st) σ) else none) ∧
  (∀ (l0 l1 l2 l3 : Option Value) (a0 : Int32) (a1 : Int32) (q : Nat) (σ : dS), den mL_law 410 [l0, l1, l2, l3] [.int a1, .int a0, .ref q] σ = if disO σ q 5 = true then ((dcall mX6_cover [.ref q, .int a0, .int a1] σ).bind fun r => den mL_law 413 [l0, l1, l2, l3] (r.1.toList ++ []) r.2) else none) ∧
  (∀ (l0 l1 l3 : Option Value) (x : Nat) (st : List Value) (σ : dS), den mL_law 413 [l0, l1, some (.ref x), l3] st σ = den mL_law 414 [l0, l1, some (.ref x), l3] (.ref x :: st) σ) ∧
  (∀ (l1 l2 l3 : Option Value) (x : Nat) (st : List Value) (σ : dS), den mL_law 414 [some (.ref x), l1, l2, l3] st σ = den mL_law 415 [some (.ref x), l1, l2, l3] (.ref x :: st) σ) ∧
  (∀ (l0 l1 l2 : Option Value) (x : Int32) (st : List Value) (σ : dS), den mL_law 415 [l0, l1, l2, some (.int x)] st σ = den mL_law 416 [l0, l1, l2, some (.int x)] (.int x :: st) σ) ∧
  (∀ (l0 l1 l2 l3 : Option Value) (st : List Value) (σ : dS), den mL_law 416 [l0, l1, l2, l3] st σ = den mL_law 417 [l0, l1, l2, l3] (.int (nI 1) :: st) σ) :=
  ⟨fun l0 l1 l2 l3 st σ => dn_iconst eL_law dL_law_369 kc_iconst_1,
  fun l0 l1 l2 l3 x y st σ => dn_iadd eL_law dL_law_370,
  fun l0 l1 l2 l3 q i st σ => dn_iaload eL_law dL_law_371,
  fun l1 l2 l3 x st σ => dn_aload_n eL_law dL_law_372 rfl,
  fun l0 l1 l2 x st σ => dn_iload_n eL_law dL_law_373 rfl,
  fun l0 l1 l2 l3 st σ => dn_iconst eL_law dL_law_374 kc_iconst_2,
  fun l0 l1 l2 l3 x y st σ => dn_iadd eL_law dL_law_375,
  fun l0 l1 l2 l3 q i st σ => dn_iaload eL_law dL_law_376,
  fun l0 l1 l2 l3 a0 a1 q σ => rL_law_377 l0 l1 l2 l3 a0 a1 q σ,
  fun l0 l1 l3 x st σ => dn_aload_n eL_law dL_law_380 rfl,
  fun l1 l2 l3 x st σ => dn_aload_n eL_law dL_law_381 rfl,
  fun l0 l1 l2 x st σ => dn_iload_n eL_law dL_law_382 rfl,
  fun l0 l1 l2 l3 st σ => dn_iconst eL_law dL_law_383 kc_iconst_1,
  fun l0 l1 l2 l3 x y st σ => dn_iadd eL_law dL_law_384,
  fun l0 l1 l2 l3 q i st σ => dn_iaload eL_law dL_law_385,
  fun l1 l2 l3 x st σ => dn_aload_n eL_law dL_law_386 rfl,
  fun l0 l1 l2 x st σ => dn_iload_n eL_law dL_law_387 rfl,
  fun l0 l1 l2 l3 st σ => dn_iconst eL_law dL_law_388 kc_iconst_2,
  fun l0 l1 l2 l3 x y st σ => dn_iadd eL_law dL_law_389,
  fun l0 l1 l2 l3 q i st σ => dn_iaload eL_law dL_law_390,
  fun l0 l1 l2 l3 a0 a1 b0 q σ => rL_law_391 l0 l1 l2 l3 a0 a1 b0 q σ,
  fun l0 l1 l2 l3 x y st σ => dn_icmp_eq eL_law dL_law_394 (by decide),
  fun l0 l1 l2 l3 st σ => dn_iconst eL_law dL_law_397 kc_iconst_0,
  fun l0 l1 l2 l3 v σ => dn_zreturn eL_law dL_law_398 rfl,
  fun l0 l2 l3 x st σ => dn_aload_n eL_law dL_law_399 rfl,
  fun l1 l2 l3 x st σ => dn_aload_n eL_law dL_law_400 rfl,
  fun l0 l1 l2 x st σ => dn_iload_n eL_law dL_law_401 rfl,
  fun l0 l1 l2 l3 st σ => dn_iconst eL_law dL_law_402 kc_iconst_1,
  fun l0 l1 l2 l3 x y st σ => dn_iadd eL_law dL_law_403,
  fun l0 l1 l2 l3 q i st σ => dn_iaload eL_law dL_law_404,
  fun l1 l2 l3 x st σ => dn_aload_n eL_law dL_law_405 rfl,
  fun l0 l1 l2 x st σ => dn_iload_n eL_law dL_law_406 rfl,
  fun l0 l1 l2 l3 st σ => dn_iconst eL_law dL_law_407 kc_iconst_2,
  fun l0 l1 l2 l3 x y st σ => dn_iadd eL_law dL_law_408,
  fun l0 l1 l2 l3 q i st σ => dn_iaload eL_law dL_law_409,
  fun l0 l1 l2 l3 a0 a1 q σ => rL_law_410 l0 l1 l2 l3 a0 a1 q σ,
  fun l0 l1 l3 x st σ => dn_aload_n eL_law dL_law_413 rfl,
  fun l1 l2 l3 x st σ => dn_aload_n eL_law dL_law_414 rfl,
  fun l0 l1 l2 x st σ => dn_iload_n eL_law dL_law_415 rfl,
  fun l0 l1 l2 l3 st σ => dn_iconst eL_law dL_law_416 kc_iconst_1⟩
set_option maxRecDepth 20000 in
theorem SL_law_5 : (∀ (l0 l1 l2 l3 : Option Value) (x y : Int32) (st : List Value) (σ : dS), den mL_law 417 [l0, l1, l2, l3] (.int y :: .int x :: st) σ = den mL_law 418 [l0, l1, l2, l3] (.int (x + y) :: st) σ) ∧
  (∀ (l0 l1 l2 l3 : Option Value) (q : Nat) (i : Int32) (st : List Value) (σ : dS), den mL_law 418 [l0, l1, l2, l3] (.int i :: .ref q :: st) σ = if q ≤ dN then (dald σ q 0 i).bind (fun v => den mL_law 419 [l0, l1, l2, l3] (.int v :: st) σ) else none) ∧
  (∀ (l1 l2 l3 : Option Value) (x : Nat) (st : List Value) (σ : dS), den mL_law 419 [some (.ref x), l1, l2, l3] st σ = den mL_law 420 [some (.ref x), l1, l2, l3] (.ref x :: st) σ) ∧
  (∀ (l0 l1 l2 : Option Value) (x : Int32) (st : List Value) (σ : dS), den mL_law 420 [l0, l1, l2, some (.int x)] st σ = den mL_law 421 [l0, l1, l2, some (.int x)] (.int x :: st) σ) ∧
  (∀ (l0 l1 l2 l3 : Option Value) (st : List Value) (σ : dS), den mL_law 421 [l0, l1, l2, l3] st σ = den mL_law 422 [l0, l1, l2, l3] (.int (nI 2) :: st) σ) ∧
  (∀ (l0 l1 l2 l3 : Option Value) (x y : Int32) (st : List Value) (σ : dS), den mL_law 422 [l0, l1, l2, l3] (.int y :: .int x :: st) σ = den mL_law 423 [l0, l1, l2, l3] (.int (x + y) :: st) σ) ∧
  (∀ (l0 l1 l2 l3 : Option Value) (q : Nat) (i : Int32) (st : List Value) (σ : dS), den mL_law 423 [l0, l1, l2, l3] (.int i :: .ref q :: st) σ = if q ≤ dN then (dald σ q 0 i).bind (fun v => den mL_law 424 [l0, l1, l2, l3] (.int v :: st) σ) else none) ∧
  (∀ (l0 l1 l2 l3 : Option Value) (a0 : Int32) (a1 : Int32) (b0 : Int32) (q : Nat) (σ : dS), den mL_law 424 [l0, l1, l2, l3] [.int a1, .int a0, .ref q, .int b0] σ = if disO σ q 6 = true then ((dcall mX7_cover [.ref q, .int a0, .int a1] σ).bind fun r => den mL_law 427 [l0, l1, l2, l3] (r.1.toList ++ [.int b0]) r.2) else none) ∧
  (∀ (l0 l1 l2 l3 : Option Value) (x y : Int32) (st : List Value) (σ : dS), den mL_law 427 [l0, l1, l2, l3] (.int y :: .int x :: st) σ = if x = y then den mL_law 1057 [l0, l1, l2, l3] st σ else den mL_law 430 [l0, l1, l2, l3] st σ) ∧
  (∀ (l0 l1 l2 l3 : Option Value) (st : List Value) (σ : dS), den mL_law 430 [l0, l1, l2, l3] st σ = den mL_law 431 [l0, l1, l2, l3] (.int (nI 0) :: st) σ) ∧
  (∀ (l0 l1 l2 l3 : Option Value) (v : Int32) (σ : dS), den mL_law 431 [l0, l1, l2, l3] [.int v] σ = if v = 0 ∨ v = 1 then some (some (.int v), σ) else none) ∧
  (∀ (l0 l2 l3 : Option Value) (x : Nat) (st : List Value) (σ : dS), den mL_law 432 [l0, some (.ref x), l2, l3] st σ = den mL_law 433 [l0, some (.ref x), l2, l3] (.ref x :: st) σ) ∧
  (∀ (l1 l2 l3 : Option Value) (x : Nat) (st : List Value) (σ : dS), den mL_law 433 [some (.ref x), l1, l2, l3] st σ = den mL_law 434 [some (.ref x), l1, l2, l3] (.ref x :: st) σ) ∧
  (∀ (l0 l1 l2 : Option Value) (x : Int32) (st : List Value) (σ : dS), den mL_law 434 [l0, l1, l2, some (.int x)] st σ = den mL_law 435 [l0, l1, l2, some (.int x)] (.int x :: st) σ) ∧
  (∀ (l0 l1 l2 l3 : Option Value) (st : List Value) (σ : dS), den mL_law 435 [l0, l1, l2, l3] st σ = den mL_law 436 [l0, l1, l2, l3] (.int (nI 1) :: st) σ) ∧
  (∀ (l0 l1 l2 l3 : Option Value) (x y : Int32) (st : List Value) (σ : dS), den mL_law 436 [l0, l1, l2, l3] (.int y :: .int x :: st) σ = den mL_law 437 [l0, l1, l2, l3] (.int (x + y) :: st) σ) ∧
  (∀ (l0 l1 l2 l3 : Option Value) (q : Nat) (i : Int32) (st : List Value) (σ : dS), den mL_law 437 [l0, l1, l2, l3] (.int i :: .ref q :: st) σ = if q ≤ dN then (dald σ q 0 i).bind (fun v => den mL_law 438 [l0, l1, l2, l3] (.int v :: st) σ) else none) ∧
  (∀ (l1 l2 l3 : Option Value) (x : Nat) (st : List Value) (σ : dS), den mL_law 438 [some (.ref x), l1, l2, l3] st σ = den mL_law 439 [some (.ref x), l1, l2, l3] (.ref x :: st) σ) ∧
  (∀ (l0 l1 l2 : Option Value) (x : Int32) (st : List Value) (σ : dS), den mL_law 439 [l0, l1, l2, some (.int x)] st σ = den mL_law 440 [l0, l1, l2, some (.int x)] (.int x :: st) σ) ∧
  (∀ (l0 l1 l2 l3 : Option Value) (st : List Value) (σ : dS), den mL_law 440 [l0, l1, l2, l3] st σ = den mL_law 441 [l0, l1, l2, l3] (.int (nI 2) :: st) σ) ∧
  (∀ (l0 l1 l2 l3 : Option Value) (x y : Int32) (st : List Value) (σ : dS), den mL_law 441 [l0, l1, l2, l3] (.int y :: .int x :: st) σ = den mL_law 442 [l0, l1, l2, l3] (.int (x + y) :: st) σ) ∧
  (∀ (l0 l1 l2 l3 : Option Value) (q : Nat) (i : Int32) (st : List Value) (σ : dS), den mL_law 442 [l0, l1, l2, l3] (.int i :: .ref q :: st) σ = if q ≤ dN then (dald σ q 0 i).bind (fun v => den mL_law 443 [l0, l1, l2, l3] (.int v :: st) σ) else none) ∧
  (∀ (l1 l2 l3 : Option Value) (x : Nat) (st : List Value) (σ : dS), den mL_law 443 [some (.ref x), l1, l2, l3] st σ = den mL_law 444 [some (.ref x), l1, l2, l3] (.ref x :: st) σ) ∧
  (∀ (l0 l1 l2 : Option Value) (x : Int32) (st : List Value) (σ : dS), den mL_law 444 [l0, l1, l2, some (.int x)] st σ = den mL_law 445 [l0, l1, l2, some (.int x)] (.int x :: st) σ) ∧
  (∀ (l0 l1 l2 l3 : Option Value) (st : List Value) (σ : dS), den mL_law 445 [l0, l1, l2, l3] st σ = den mL_law 446 [l0, l1, l2, l3] (.int (nI 3) :: st) σ) ∧
  (∀ (l0 l1 l2 l3 : Option Value) (x y : Int32) (st : List Value) (σ : dS), den mL_law 446 [l0, l1, l2, l3] (.int y :: .int x :: st) σ = den mL_law 447 [l0, l1, l2, l3] (.int (x + y) :: st) σ) ∧
  (∀ (l0 l1 l2 l3 : Option Value) (q : Nat) (i : Int32) (st : List Value) (σ : dS), den mL_law 447 [l0, l1, l2, l3] (.int i :: .ref q :: st) σ = if q ≤ dN then (dald σ q 0 i).bind (fun v => den mL_law 448 [l0, l1, l2, l3] (.int v :: st) σ) else none) ∧
  (∀ (l1 l2 l3 : Option Value) (x : Nat) (st : List Value) (σ : dS), den mL_law 448 [some (.ref x), l1, l2, l3] st σ = den mL_law 449 [some (.ref x), l1, l2, l3] (.ref x :: st) σ) ∧
  (∀ (l0 l1 l2 : Option Value) (x : Int32) (st : List Value) (σ : dS), den mL_law 449 [l0, l1, l2, some (.int x)] st σ = den mL_law 450 [l0, l1, l2, some (.int x)] (.int x :: st) σ) ∧
  (∀ (l0 l1 l2 l3 : Option Value) (st : List Value) (σ : dS), den mL_law 450 [l0, l1, l2, l3] st σ = den mL_law 451 [l0, l1, l2, l3] (.int (nI 4) :: st) σ) ∧
  (∀ (l0 l1 l2 l3 : Option Value) (x y : Int32) (st : List Value) (σ : dS), den mL_law 451 [l0, l1, l2, l3] (.int y :: .int x :: st) σ = den mL_law 452 [l0, l1, l2, l3] (.int (x + y) :: st) σ) ∧
  (∀ (l0 l1 l2 l3 : Option Value) (q : Nat) (i : Int32) (st : List Value) (σ : dS), den mL_law 452 [l0, l1, l2, l3] (.int i :: .ref q :: st) σ = if q ≤ dN then (dald σ q 0 i).bind (fun v => den mL_law 453 [l0, l1, l2, l3] (.int v :: st) σ) else none) ∧
  (∀ (l0 l1 l2 l3 : Option Value) (a0 : Int32) (a1 : Int32) (a2 : Int32) (a3 : Int32) (q : Nat) (σ : dS), den mL_law 453 [l0, l1, l2, l3] [.int a3, .int a2, .int a1, .int a0, .ref q] σ = if disO σ q 5 = true then ((dcall mX6_run [.ref q, .int a0, .int a1, .int a2, .int a3] σ).bind fun r => den mL_law 456 [l0, l1, l2, l3] (r.1.toList ++ []) r.2) else none) ∧
  (∀ (l0 l1 l3 : Option Value) (x : Nat) (st : List Value) (σ : dS), den mL_law 456 [l0, l1, some (.ref x), l3] st σ = den mL_law 457 [l0, l1, some (.ref x), l3] (.ref x :: st) σ) ∧
  (∀ (l1 l2 l3 : Option Value) (x : Nat) (st : List Value) (σ : dS), den mL_law 457 [some (.ref x), l1, l2, l3] st σ = den mL_law 458 [some (.ref x), l1, l2, l3] (.ref x :: st) σ) ∧
  (∀ (l0 l1 l2 : Option Value) (x : Int32) (st : List Value) (σ : dS), den mL_law 458 [l0, l1, l2, some (.int x)] st σ = den mL_law 459 [l0, l1, l2, some (.int x)] (.int x :: st) σ) ∧
  (∀ (l0 l1 l2 l3 : Option Value) (st : List Value) (σ : dS), den mL_law 459 [l0, l1, l2, l3] st σ = den mL_law 460 [l0, l1, l2, l3] (.int (nI 1) :: st) σ) ∧
  (∀ (l0 l1 l2 l3 : Option Value) (x y : Int32) (st : List Value) (σ : dS), den mL_law 460 [l0, l1, l2, l3] (.int y :: .int x :: st) σ = den mL_law 461 [l0, l1, l2, l3] (.int (x + y) :: st) σ) ∧
  (∀ (l0 l1 l2 l3 : Option Value) (q : Nat) (i : Int32) (st : List Value) (σ : dS), den mL_law 461 [l0, l1, l2, l3] (.int i :: .ref q :: st) σ = if q ≤ dN then (dald σ q 0 i).bind (fun v => den mL_law 462 [l0, l1, l2, l3] (.int v :: st) σ) else none) ∧
  (∀ (l1 l2 l3 : Option Value) (x : Nat) (st : List Value) (σ : dS), den mL_law 462 [some (.ref x), l1, l2, l3] st σ = den mL_law 463 [some (.ref x), l1, l2, l3] (.ref x :: st) σ) :=
  ⟨fun l0 l1 l2 l3 x y st σ => dn_iadd eL_law dL_law_417,
  fun l0 l1 l2 l3 q i st σ => dn_iaload eL_law dL_law_418,
  fun l1 l2 l3 x st σ => dn_aload_n eL_law dL_law_419 rfl,
  fun l0 l1 l2 x st σ => dn_iload_n eL_law dL_law_420 rfl,
  fun l0 l1 l2 l3 st σ => dn_iconst eL_law dL_law_421 kc_iconst_2,
  fun l0 l1 l2 l3 x y st σ => dn_iadd eL_law dL_law_422,
  fun l0 l1 l2 l3 q i st σ => dn_iaload eL_law dL_law_423,
  fun l0 l1 l2 l3 a0 a1 b0 q σ => rL_law_424 l0 l1 l2 l3 a0 a1 b0 q σ,
  fun l0 l1 l2 l3 x y st σ => dn_icmp_eq eL_law dL_law_427 (by decide),
  fun l0 l1 l2 l3 st σ => dn_iconst eL_law dL_law_430 kc_iconst_0,
  fun l0 l1 l2 l3 v σ => dn_zreturn eL_law dL_law_431 rfl,
  fun l0 l2 l3 x st σ => dn_aload_n eL_law dL_law_432 rfl,
  fun l1 l2 l3 x st σ => dn_aload_n eL_law dL_law_433 rfl,
  fun l0 l1 l2 x st σ => dn_iload_n eL_law dL_law_434 rfl,
  fun l0 l1 l2 l3 st σ => dn_iconst eL_law dL_law_435 kc_iconst_1,
  fun l0 l1 l2 l3 x y st σ => dn_iadd eL_law dL_law_436,
  fun l0 l1 l2 l3 q i st σ => dn_iaload eL_law dL_law_437,
  fun l1 l2 l3 x st σ => dn_aload_n eL_law dL_law_438 rfl,
  fun l0 l1 l2 x st σ => dn_iload_n eL_law dL_law_439 rfl,
  fun l0 l1 l2 l3 st σ => dn_iconst eL_law dL_law_440 kc_iconst_2,
  fun l0 l1 l2 l3 x y st σ => dn_iadd eL_law dL_law_441,
  fun l0 l1 l2 l3 q i st σ => dn_iaload eL_law dL_law_442,
  fun l1 l2 l3 x st σ => dn_aload_n eL_law dL_law_443 rfl,
  fun l0 l1 l2 x st σ => dn_iload_n eL_law dL_law_444 rfl,
  fun l0 l1 l2 l3 st σ => dn_iconst eL_law dL_law_445 kc_iconst_3,
  fun l0 l1 l2 l3 x y st σ => dn_iadd eL_law dL_law_446,
  fun l0 l1 l2 l3 q i st σ => dn_iaload eL_law dL_law_447,
  fun l1 l2 l3 x st σ => dn_aload_n eL_law dL_law_448 rfl,
  fun l0 l1 l2 x st σ => dn_iload_n eL_law dL_law_449 rfl,
  fun l0 l1 l2 l3 st σ => dn_iconst eL_law dL_law_450 kc_iconst_4,
  fun l0 l1 l2 l3 x y st σ => dn_iadd eL_law dL_law_451,
  fun l0 l1 l2 l3 q i st σ => dn_iaload eL_law dL_law_452,
  fun l0 l1 l2 l3 a0 a1 a2 a3 q σ => rL_law_453 l0 l1 l2 l3 a0 a1 a2 a3 q σ,
  fun l0 l1 l3 x st σ => dn_aload_n eL_law dL_law_456 rfl,
  fun l1 l2 l3 x st σ => dn_aload_n eL_law dL_law_457 rfl,
  fun l0 l1 l2 x st σ => dn_iload_n eL_law dL_law_458 rfl,
  fun l0 l1 l2 l3 st σ => dn_iconst eL_law dL_law_459 kc_iconst_1,
  fun l0 l1 l2 l3 x y st σ => dn_iadd eL_law dL_law_460,
  fun l0 l1 l2 l3 q i st σ => dn_iaload eL_law dL_law_461,
  fun l1 l2 l3 x st σ => dn_aload_n eL_law dL_law_462 rfl⟩
set_option maxRecDepth 20000 in
theorem SL_law_6 : (∀ (l0 l1 l2 : Option Value) (x : Int32) (st : List Value) (σ : dS), den mL_law 463 [l0, l1, l2, some (.int x)] st σ = den mL_law 464 [l0, l1, l2, some (.int x)] (.int x :: st) σ) ∧
  (∀ (l0 l1 l2 l3 : Option Value) (st : List Value) (σ : dS), den mL_law 464 [l0, l1, l2, l3] st σ = den mL_law 465 [l0, l1, l2, l3] (.int (nI 2) :: st) σ) ∧
  (∀ (l0 l1 l2 l3 : Option Value) (x y : Int32) (st : List Value) (σ : dS), den mL_law 465 [l0, l1, l2, l3] (.int y :: .int x :: st) σ = den mL_law 466 [l0, l1, l2, l3] (.int (x + y) :: st) σ) ∧
  (∀ (l0 l1 l2 l3 : Option Value) (q : Nat) (i : Int32) (st : List Value) (σ : dS), den mL_law 466 [l0, l1, l2, l3] (.int i :: .ref q :: st) σ = if q ≤ dN then (dald σ q 0 i).bind (fun v => den mL_law 467 [l0, l1, l2, l3] (.int v :: st) σ) else none) ∧
  (∀ (l1 l2 l3 : Option Value) (x : Nat) (st : List Value) (σ : dS), den mL_law 467 [some (.ref x), l1, l2, l3] st σ = den mL_law 468 [some (.ref x), l1, l2, l3] (.ref x :: st) σ) ∧
  (∀ (l0 l1 l2 : Option Value) (x : Int32) (st : List Value) (σ : dS), den mL_law 468 [l0, l1, l2, some (.int x)] st σ = den mL_law 469 [l0, l1, l2, some (.int x)] (.int x :: st) σ) ∧
  (∀ (l0 l1 l2 l3 : Option Value) (st : List Value) (σ : dS), den mL_law 469 [l0, l1, l2, l3] st σ = den mL_law 470 [l0, l1, l2, l3] (.int (nI 3) :: st) σ) ∧
  (∀ (l0 l1 l2 l3 : Option Value) (x y : Int32) (st : List Value) (σ : dS), den mL_law 470 [l0, l1, l2, l3] (.int y :: .int x :: st) σ = den mL_law 471 [l0, l1, l2, l3] (.int (x + y) :: st) σ) ∧
  (∀ (l0 l1 l2 l3 : Option Value) (q : Nat) (i : Int32) (st : List Value) (σ : dS), den mL_law 471 [l0, l1, l2, l3] (.int i :: .ref q :: st) σ = if q ≤ dN then (dald σ q 0 i).bind (fun v => den mL_law 472 [l0, l1, l2, l3] (.int v :: st) σ) else none) ∧
  (∀ (l1 l2 l3 : Option Value) (x : Nat) (st : List Value) (σ : dS), den mL_law 472 [some (.ref x), l1, l2, l3] st σ = den mL_law 473 [some (.ref x), l1, l2, l3] (.ref x :: st) σ) ∧
  (∀ (l0 l1 l2 : Option Value) (x : Int32) (st : List Value) (σ : dS), den mL_law 473 [l0, l1, l2, some (.int x)] st σ = den mL_law 474 [l0, l1, l2, some (.int x)] (.int x :: st) σ) ∧
  (∀ (l0 l1 l2 l3 : Option Value) (st : List Value) (σ : dS), den mL_law 474 [l0, l1, l2, l3] st σ = den mL_law 475 [l0, l1, l2, l3] (.int (nI 4) :: st) σ) ∧
  (∀ (l0 l1 l2 l3 : Option Value) (x y : Int32) (st : List Value) (σ : dS), den mL_law 475 [l0, l1, l2, l3] (.int y :: .int x :: st) σ = den mL_law 476 [l0, l1, l2, l3] (.int (x + y) :: st) σ) ∧
  (∀ (l0 l1 l2 l3 : Option Value) (q : Nat) (i : Int32) (st : List Value) (σ : dS), den mL_law 476 [l0, l1, l2, l3] (.int i :: .ref q :: st) σ = if q ≤ dN then (dald σ q 0 i).bind (fun v => den mL_law 477 [l0, l1, l2, l3] (.int v :: st) σ) else none) ∧
  (∀ (l0 l1 l2 l3 : Option Value) (a0 : Int32) (a1 : Int32) (a2 : Int32) (a3 : Int32) (b0 : Int32) (q : Nat) (σ : dS), den mL_law 477 [l0, l1, l2, l3] [.int a3, .int a2, .int a1, .int a0, .ref q, .int b0] σ = if disO σ q 6 = true then ((dcall mX7_run [.ref q, .int a0, .int a1, .int a2, .int a3] σ).bind fun r => den mL_law 480 [l0, l1, l2, l3] (r.1.toList ++ [.int b0]) r.2) else none) ∧
  (∀ (l0 l1 l2 l3 : Option Value) (x y : Int32) (st : List Value) (σ : dS), den mL_law 480 [l0, l1, l2, l3] (.int y :: .int x :: st) σ = if x = y then den mL_law 1057 [l0, l1, l2, l3] st σ else den mL_law 483 [l0, l1, l2, l3] st σ) ∧
  (∀ (l0 l1 l2 l3 : Option Value) (st : List Value) (σ : dS), den mL_law 483 [l0, l1, l2, l3] st σ = den mL_law 484 [l0, l1, l2, l3] (.int (nI 0) :: st) σ) ∧
  (∀ (l0 l1 l2 l3 : Option Value) (v : Int32) (σ : dS), den mL_law 484 [l0, l1, l2, l3] [.int v] σ = if v = 0 ∨ v = 1 then some (some (.int v), σ) else none) ∧
  (∀ (l0 l2 l3 : Option Value) (x : Nat) (st : List Value) (σ : dS), den mL_law 485 [l0, some (.ref x), l2, l3] st σ = den mL_law 486 [l0, some (.ref x), l2, l3] (.ref x :: st) σ) ∧
  (∀ (l1 l2 l3 : Option Value) (x : Nat) (st : List Value) (σ : dS), den mL_law 486 [some (.ref x), l1, l2, l3] st σ = den mL_law 487 [some (.ref x), l1, l2, l3] (.ref x :: st) σ) ∧
  (∀ (l0 l1 l2 : Option Value) (x : Int32) (st : List Value) (σ : dS), den mL_law 487 [l0, l1, l2, some (.int x)] st σ = den mL_law 488 [l0, l1, l2, some (.int x)] (.int x :: st) σ) ∧
  (∀ (l0 l1 l2 l3 : Option Value) (st : List Value) (σ : dS), den mL_law 488 [l0, l1, l2, l3] st σ = den mL_law 489 [l0, l1, l2, l3] (.int (nI 1) :: st) σ) ∧
  (∀ (l0 l1 l2 l3 : Option Value) (x y : Int32) (st : List Value) (σ : dS), den mL_law 489 [l0, l1, l2, l3] (.int y :: .int x :: st) σ = den mL_law 490 [l0, l1, l2, l3] (.int (x + y) :: st) σ) ∧
  (∀ (l0 l1 l2 l3 : Option Value) (q : Nat) (i : Int32) (st : List Value) (σ : dS), den mL_law 490 [l0, l1, l2, l3] (.int i :: .ref q :: st) σ = if q ≤ dN then (dald σ q 0 i).bind (fun v => den mL_law 491 [l0, l1, l2, l3] (.int v :: st) σ) else none) ∧
  (∀ (l0 l1 l2 l3 : Option Value) (a0 : Int32) (q : Nat) (σ : dS), den mL_law 491 [l0, l1, l2, l3] [.int a0, .ref q] σ = if disO σ q 5 = true then ((dcall mX6_value [.ref q, .int a0] σ).bind fun r => den mL_law 494 [l0, l1, l2, l3] (r.1.toList ++ []) r.2) else none) ∧
  (∀ (l0 l1 l3 : Option Value) (x : Nat) (st : List Value) (σ : dS), den mL_law 494 [l0, l1, some (.ref x), l3] st σ = den mL_law 495 [l0, l1, some (.ref x), l3] (.ref x :: st) σ) ∧
  (∀ (l1 l2 l3 : Option Value) (x : Nat) (st : List Value) (σ : dS), den mL_law 495 [some (.ref x), l1, l2, l3] st σ = den mL_law 496 [some (.ref x), l1, l2, l3] (.ref x :: st) σ) ∧
  (∀ (l0 l1 l2 : Option Value) (x : Int32) (st : List Value) (σ : dS), den mL_law 496 [l0, l1, l2, some (.int x)] st σ = den mL_law 497 [l0, l1, l2, some (.int x)] (.int x :: st) σ) ∧
  (∀ (l0 l1 l2 l3 : Option Value) (st : List Value) (σ : dS), den mL_law 497 [l0, l1, l2, l3] st σ = den mL_law 498 [l0, l1, l2, l3] (.int (nI 1) :: st) σ) ∧
  (∀ (l0 l1 l2 l3 : Option Value) (x y : Int32) (st : List Value) (σ : dS), den mL_law 498 [l0, l1, l2, l3] (.int y :: .int x :: st) σ = den mL_law 499 [l0, l1, l2, l3] (.int (x + y) :: st) σ) ∧
  (∀ (l0 l1 l2 l3 : Option Value) (q : Nat) (i : Int32) (st : List Value) (σ : dS), den mL_law 499 [l0, l1, l2, l3] (.int i :: .ref q :: st) σ = if q ≤ dN then (dald σ q 0 i).bind (fun v => den mL_law 500 [l0, l1, l2, l3] (.int v :: st) σ) else none) ∧
  (∀ (l0 l1 l2 l3 : Option Value) (a0 : Int32) (b0 : Int32) (q : Nat) (σ : dS), den mL_law 500 [l0, l1, l2, l3] [.int a0, .ref q, .int b0] σ = if disO σ q 6 = true then ((dcall mX7_value [.ref q, .int a0] σ).bind fun r => den mL_law 503 [l0, l1, l2, l3] (r.1.toList ++ [.int b0]) r.2) else none) ∧
  (∀ (l0 l1 l2 l3 : Option Value) (x y : Int32) (st : List Value) (σ : dS), den mL_law 503 [l0, l1, l2, l3] (.int y :: .int x :: st) σ = if x = y then den mL_law 1057 [l0, l1, l2, l3] st σ else den mL_law 506 [l0, l1, l2, l3] st σ) ∧
  (∀ (l0 l1 l2 l3 : Option Value) (st : List Value) (σ : dS), den mL_law 506 [l0, l1, l2, l3] st σ = den mL_law 507 [l0, l1, l2, l3] (.int (nI 0) :: st) σ) ∧
  (∀ (l0 l1 l2 l3 : Option Value) (v : Int32) (σ : dS), den mL_law 507 [l0, l1, l2, l3] [.int v] σ = if v = 0 ∨ v = 1 then some (some (.int v), σ) else none) ∧
  (∀ (l0 l2 l3 : Option Value) (x : Nat) (st : List Value) (σ : dS), den mL_law 508 [l0, some (.ref x), l2, l3] st σ = den mL_law 509 [l0, some (.ref x), l2, l3] (.ref x :: st) σ) ∧
  (∀ (l0 l1 l2 l3 : Option Value) (q : Nat) (σ : dS), den mL_law 509 [l0, l1, l2, l3] [.ref q] σ = if disO σ q 5 = true then ((dcall mX6_spent [.ref q] σ).bind fun r => den mL_law 512 [l0, l1, l2, l3] (r.1.toList ++ []) r.2) else none) ∧
  (∀ (l0 l1 l3 : Option Value) (x : Nat) (st : List Value) (σ : dS), den mL_law 512 [l0, l1, some (.ref x), l3] st σ = den mL_law 513 [l0, l1, some (.ref x), l3] (.ref x :: st) σ) ∧
  (∀ (l0 l1 l2 l3 : Option Value) (b0 : Int32) (q : Nat) (σ : dS), den mL_law 513 [l0, l1, l2, l3] [.ref q, .int b0] σ = if disO σ q 6 = true then ((dcall mX7_spent [.ref q] σ).bind fun r => den mL_law 516 [l0, l1, l2, l3] (r.1.toList ++ [.int b0]) r.2) else none) ∧
  (∀ (l0 l1 l2 l3 : Option Value) (x y : Int32) (st : List Value) (σ : dS), den mL_law 516 [l0, l1, l2, l3] (.int y :: .int x :: st) σ = if x = y then den mL_law 1057 [l0, l1, l2, l3] st σ else den mL_law 519 [l0, l1, l2, l3] st σ) :=
  ⟨fun l0 l1 l2 x st σ => dn_iload_n eL_law dL_law_463 rfl,
  fun l0 l1 l2 l3 st σ => dn_iconst eL_law dL_law_464 kc_iconst_2,
  fun l0 l1 l2 l3 x y st σ => dn_iadd eL_law dL_law_465,
  fun l0 l1 l2 l3 q i st σ => dn_iaload eL_law dL_law_466,
  fun l1 l2 l3 x st σ => dn_aload_n eL_law dL_law_467 rfl,
  fun l0 l1 l2 x st σ => dn_iload_n eL_law dL_law_468 rfl,
  fun l0 l1 l2 l3 st σ => dn_iconst eL_law dL_law_469 kc_iconst_3,
  fun l0 l1 l2 l3 x y st σ => dn_iadd eL_law dL_law_470,
  fun l0 l1 l2 l3 q i st σ => dn_iaload eL_law dL_law_471,
  fun l1 l2 l3 x st σ => dn_aload_n eL_law dL_law_472 rfl,
  fun l0 l1 l2 x st σ => dn_iload_n eL_law dL_law_473 rfl,
  fun l0 l1 l2 l3 st σ => dn_iconst eL_law dL_law_474 kc_iconst_4,
  fun l0 l1 l2 l3 x y st σ => dn_iadd eL_law dL_law_475,
  fun l0 l1 l2 l3 q i st σ => dn_iaload eL_law dL_law_476,
  fun l0 l1 l2 l3 a0 a1 a2 a3 b0 q σ => rL_law_477 l0 l1 l2 l3 a0 a1 a2 a3 b0 q σ,
  fun l0 l1 l2 l3 x y st σ => dn_icmp_eq eL_law dL_law_480 (by decide),
  fun l0 l1 l2 l3 st σ => dn_iconst eL_law dL_law_483 kc_iconst_0,
  fun l0 l1 l2 l3 v σ => dn_zreturn eL_law dL_law_484 rfl,
  fun l0 l2 l3 x st σ => dn_aload_n eL_law dL_law_485 rfl,
  fun l1 l2 l3 x st σ => dn_aload_n eL_law dL_law_486 rfl,
  fun l0 l1 l2 x st σ => dn_iload_n eL_law dL_law_487 rfl,
  fun l0 l1 l2 l3 st σ => dn_iconst eL_law dL_law_488 kc_iconst_1,
  fun l0 l1 l2 l3 x y st σ => dn_iadd eL_law dL_law_489,
  fun l0 l1 l2 l3 q i st σ => dn_iaload eL_law dL_law_490,
  fun l0 l1 l2 l3 a0 q σ => rL_law_491 l0 l1 l2 l3 a0 q σ,
  fun l0 l1 l3 x st σ => dn_aload_n eL_law dL_law_494 rfl,
  fun l1 l2 l3 x st σ => dn_aload_n eL_law dL_law_495 rfl,
  fun l0 l1 l2 x st σ => dn_iload_n eL_law dL_law_496 rfl,
  fun l0 l1 l2 l3 st σ => dn_iconst eL_law dL_law_497 kc_iconst_1,
  fun l0 l1 l2 l3 x y st σ => dn_iadd eL_law dL_law_498,
  fun l0 l1 l2 l3 q i st σ => dn_iaload eL_law dL_law_499,
  fun l0 l1 l2 l3 a0 b0 q σ => rL_law_500 l0 l1 l2 l3 a0 b0 q σ,
  fun l0 l1 l2 l3 x y st σ => dn_icmp_eq eL_law dL_law_503 (by decide),
  fun l0 l1 l2 l3 st σ => dn_iconst eL_law dL_law_506 kc_iconst_0,
  fun l0 l1 l2 l3 v σ => dn_zreturn eL_law dL_law_507 rfl,
  fun l0 l2 l3 x st σ => dn_aload_n eL_law dL_law_508 rfl,
  fun l0 l1 l2 l3 q σ => rL_law_509 l0 l1 l2 l3 q σ,
  fun l0 l1 l3 x st σ => dn_aload_n eL_law dL_law_512 rfl,
  fun l0 l1 l2 l3 b0 q σ => rL_law_513 l0 l1 l2 l3 b0 q σ,
  fun l0 l1 l2 l3 x y st σ => dn_icmp_eq eL_law dL_law_516 (by decide)⟩
set_option maxRecDepth 20000 in
theorem SL_law_7 : (∀ (l0 l1 l2 l3 : Option Value) (st : List Value) (σ : dS), den mL_law 519 [l0, l1, l2, l3] st σ = den mL_law 520 [l0, l1, l2, l3] (.int (nI 0) :: st) σ) ∧
  (∀ (l0 l1 l2 l3 : Option Value) (v : Int32) (σ : dS), den mL_law 520 [l0, l1, l2, l3] [.int v] σ = if v = 0 ∨ v = 1 then some (some (.int v), σ) else none) ∧
  (∀ (l0 l2 l3 : Option Value) (x : Nat) (st : List Value) (σ : dS), den mL_law 521 [l0, some (.ref x), l2, l3] st σ = den mL_law 522 [l0, some (.ref x), l2, l3] (.ref x :: st) σ) ∧
  (∀ (l1 l2 l3 : Option Value) (x : Nat) (st : List Value) (σ : dS), den mL_law 522 [some (.ref x), l1, l2, l3] st σ = den mL_law 523 [some (.ref x), l1, l2, l3] (.ref x :: st) σ) ∧
  (∀ (l0 l1 l2 : Option Value) (x : Int32) (st : List Value) (σ : dS), den mL_law 523 [l0, l1, l2, some (.int x)] st σ = den mL_law 524 [l0, l1, l2, some (.int x)] (.int x :: st) σ) ∧
  (∀ (l0 l1 l2 l3 : Option Value) (st : List Value) (σ : dS), den mL_law 524 [l0, l1, l2, l3] st σ = den mL_law 525 [l0, l1, l2, l3] (.int (nI 1) :: st) σ) ∧
  (∀ (l0 l1 l2 l3 : Option Value) (x y : Int32) (st : List Value) (σ : dS), den mL_law 525 [l0, l1, l2, l3] (.int y :: .int x :: st) σ = den mL_law 526 [l0, l1, l2, l3] (.int (x + y) :: st) σ) ∧
  (∀ (l0 l1 l2 l3 : Option Value) (q : Nat) (i : Int32) (st : List Value) (σ : dS), den mL_law 526 [l0, l1, l2, l3] (.int i :: .ref q :: st) σ = if q ≤ dN then (dald σ q 0 i).bind (fun v => den mL_law 527 [l0, l1, l2, l3] (.int v :: st) σ) else none) ∧
  (∀ (l1 l2 l3 : Option Value) (x : Nat) (st : List Value) (σ : dS), den mL_law 527 [some (.ref x), l1, l2, l3] st σ = den mL_law 528 [some (.ref x), l1, l2, l3] (.ref x :: st) σ) ∧
  (∀ (l0 l1 l2 : Option Value) (x : Int32) (st : List Value) (σ : dS), den mL_law 528 [l0, l1, l2, some (.int x)] st σ = den mL_law 529 [l0, l1, l2, some (.int x)] (.int x :: st) σ) ∧
  (∀ (l0 l1 l2 l3 : Option Value) (st : List Value) (σ : dS), den mL_law 529 [l0, l1, l2, l3] st σ = den mL_law 530 [l0, l1, l2, l3] (.int (nI 2) :: st) σ) ∧
  (∀ (l0 l1 l2 l3 : Option Value) (x y : Int32) (st : List Value) (σ : dS), den mL_law 530 [l0, l1, l2, l3] (.int y :: .int x :: st) σ = den mL_law 531 [l0, l1, l2, l3] (.int (x + y) :: st) σ) ∧
  (∀ (l0 l1 l2 l3 : Option Value) (q : Nat) (i : Int32) (st : List Value) (σ : dS), den mL_law 531 [l0, l1, l2, l3] (.int i :: .ref q :: st) σ = if q ≤ dN then (dald σ q 0 i).bind (fun v => den mL_law 532 [l0, l1, l2, l3] (.int v :: st) σ) else none) ∧
  (∀ (l1 l2 l3 : Option Value) (x : Nat) (st : List Value) (σ : dS), den mL_law 532 [some (.ref x), l1, l2, l3] st σ = den mL_law 533 [some (.ref x), l1, l2, l3] (.ref x :: st) σ) ∧
  (∀ (l0 l1 l2 : Option Value) (x : Int32) (st : List Value) (σ : dS), den mL_law 533 [l0, l1, l2, some (.int x)] st σ = den mL_law 534 [l0, l1, l2, some (.int x)] (.int x :: st) σ) ∧
  (∀ (l0 l1 l2 l3 : Option Value) (st : List Value) (σ : dS), den mL_law 534 [l0, l1, l2, l3] st σ = den mL_law 535 [l0, l1, l2, l3] (.int (nI 3) :: st) σ) ∧
  (∀ (l0 l1 l2 l3 : Option Value) (x y : Int32) (st : List Value) (σ : dS), den mL_law 535 [l0, l1, l2, l3] (.int y :: .int x :: st) σ = den mL_law 536 [l0, l1, l2, l3] (.int (x + y) :: st) σ) ∧
  (∀ (l0 l1 l2 l3 : Option Value) (q : Nat) (i : Int32) (st : List Value) (σ : dS), den mL_law 536 [l0, l1, l2, l3] (.int i :: .ref q :: st) σ = if q ≤ dN then (dald σ q 0 i).bind (fun v => den mL_law 537 [l0, l1, l2, l3] (.int v :: st) σ) else none) ∧
  (∀ (l0 l1 l2 l3 : Option Value) (a0 : Int32) (a1 : Int32) (a2 : Int32) (q : Nat) (σ : dS), den mL_law 537 [l0, l1, l2, l3] [.int a2, .int a1, .int a0, .ref q] σ = if disO σ q 5 = true then ((dcall mX6_runs [.ref q, .int a0, .int a1, .int a2] σ).bind fun r => den mL_law 540 [l0, l1, l2, l3] (r.1.toList ++ []) r.2) else none) ∧
  (∀ (l0 l1 l3 : Option Value) (x : Nat) (st : List Value) (σ : dS), den mL_law 540 [l0, l1, some (.ref x), l3] st σ = den mL_law 541 [l0, l1, some (.ref x), l3] (.ref x :: st) σ) ∧
  (∀ (l1 l2 l3 : Option Value) (x : Nat) (st : List Value) (σ : dS), den mL_law 541 [some (.ref x), l1, l2, l3] st σ = den mL_law 542 [some (.ref x), l1, l2, l3] (.ref x :: st) σ) ∧
  (∀ (l0 l1 l2 : Option Value) (x : Int32) (st : List Value) (σ : dS), den mL_law 542 [l0, l1, l2, some (.int x)] st σ = den mL_law 543 [l0, l1, l2, some (.int x)] (.int x :: st) σ) ∧
  (∀ (l0 l1 l2 l3 : Option Value) (st : List Value) (σ : dS), den mL_law 543 [l0, l1, l2, l3] st σ = den mL_law 544 [l0, l1, l2, l3] (.int (nI 1) :: st) σ) ∧
  (∀ (l0 l1 l2 l3 : Option Value) (x y : Int32) (st : List Value) (σ : dS), den mL_law 544 [l0, l1, l2, l3] (.int y :: .int x :: st) σ = den mL_law 545 [l0, l1, l2, l3] (.int (x + y) :: st) σ) ∧
  (∀ (l0 l1 l2 l3 : Option Value) (q : Nat) (i : Int32) (st : List Value) (σ : dS), den mL_law 545 [l0, l1, l2, l3] (.int i :: .ref q :: st) σ = if q ≤ dN then (dald σ q 0 i).bind (fun v => den mL_law 546 [l0, l1, l2, l3] (.int v :: st) σ) else none) ∧
  (∀ (l1 l2 l3 : Option Value) (x : Nat) (st : List Value) (σ : dS), den mL_law 546 [some (.ref x), l1, l2, l3] st σ = den mL_law 547 [some (.ref x), l1, l2, l3] (.ref x :: st) σ) ∧
  (∀ (l0 l1 l2 : Option Value) (x : Int32) (st : List Value) (σ : dS), den mL_law 547 [l0, l1, l2, some (.int x)] st σ = den mL_law 548 [l0, l1, l2, some (.int x)] (.int x :: st) σ) ∧
  (∀ (l0 l1 l2 l3 : Option Value) (st : List Value) (σ : dS), den mL_law 548 [l0, l1, l2, l3] st σ = den mL_law 549 [l0, l1, l2, l3] (.int (nI 2) :: st) σ) ∧
  (∀ (l0 l1 l2 l3 : Option Value) (x y : Int32) (st : List Value) (σ : dS), den mL_law 549 [l0, l1, l2, l3] (.int y :: .int x :: st) σ = den mL_law 550 [l0, l1, l2, l3] (.int (x + y) :: st) σ) ∧
  (∀ (l0 l1 l2 l3 : Option Value) (q : Nat) (i : Int32) (st : List Value) (σ : dS), den mL_law 550 [l0, l1, l2, l3] (.int i :: .ref q :: st) σ = if q ≤ dN then (dald σ q 0 i).bind (fun v => den mL_law 551 [l0, l1, l2, l3] (.int v :: st) σ) else none) ∧
  (∀ (l1 l2 l3 : Option Value) (x : Nat) (st : List Value) (σ : dS), den mL_law 551 [some (.ref x), l1, l2, l3] st σ = den mL_law 552 [some (.ref x), l1, l2, l3] (.ref x :: st) σ) ∧
  (∀ (l0 l1 l2 : Option Value) (x : Int32) (st : List Value) (σ : dS), den mL_law 552 [l0, l1, l2, some (.int x)] st σ = den mL_law 553 [l0, l1, l2, some (.int x)] (.int x :: st) σ) ∧
  (∀ (l0 l1 l2 l3 : Option Value) (st : List Value) (σ : dS), den mL_law 553 [l0, l1, l2, l3] st σ = den mL_law 554 [l0, l1, l2, l3] (.int (nI 3) :: st) σ) ∧
  (∀ (l0 l1 l2 l3 : Option Value) (x y : Int32) (st : List Value) (σ : dS), den mL_law 554 [l0, l1, l2, l3] (.int y :: .int x :: st) σ = den mL_law 555 [l0, l1, l2, l3] (.int (x + y) :: st) σ) ∧
  (∀ (l0 l1 l2 l3 : Option Value) (q : Nat) (i : Int32) (st : List Value) (σ : dS), den mL_law 555 [l0, l1, l2, l3] (.int i :: .ref q :: st) σ = if q ≤ dN then (dald σ q 0 i).bind (fun v => den mL_law 556 [l0, l1, l2, l3] (.int v :: st) σ) else none) ∧
  (∀ (l0 l1 l2 l3 : Option Value) (a0 : Int32) (a1 : Int32) (a2 : Int32) (b0 : Int32) (q : Nat) (σ : dS), den mL_law 556 [l0, l1, l2, l3] [.int a2, .int a1, .int a0, .ref q, .int b0] σ = if disO σ q 6 = true then ((dcall mX7_runs [.ref q, .int a0, .int a1, .int a2] σ).bind fun r => den mL_law 559 [l0, l1, l2, l3] (r.1.toList ++ [.int b0]) r.2) else none) ∧
  (∀ (l0 l1 l2 l3 : Option Value) (x y : Int32) (st : List Value) (σ : dS), den mL_law 559 [l0, l1, l2, l3] (.int y :: .int x :: st) σ = if x = y then den mL_law 1057 [l0, l1, l2, l3] st σ else den mL_law 562 [l0, l1, l2, l3] st σ) ∧
  (∀ (l0 l1 l2 l3 : Option Value) (st : List Value) (σ : dS), den mL_law 562 [l0, l1, l2, l3] st σ = den mL_law 563 [l0, l1, l2, l3] (.int (nI 0) :: st) σ) ∧
  (∀ (l0 l1 l2 l3 : Option Value) (v : Int32) (σ : dS), den mL_law 563 [l0, l1, l2, l3] [.int v] σ = if v = 0 ∨ v = 1 then some (some (.int v), σ) else none) ∧
  (∀ (l0 l2 l3 : Option Value) (x : Nat) (st : List Value) (σ : dS), den mL_law 564 [l0, some (.ref x), l2, l3] st σ = den mL_law 565 [l0, some (.ref x), l2, l3] (.ref x :: st) σ) :=
  ⟨fun l0 l1 l2 l3 st σ => dn_iconst eL_law dL_law_519 kc_iconst_0,
  fun l0 l1 l2 l3 v σ => dn_zreturn eL_law dL_law_520 rfl,
  fun l0 l2 l3 x st σ => dn_aload_n eL_law dL_law_521 rfl,
  fun l1 l2 l3 x st σ => dn_aload_n eL_law dL_law_522 rfl,
  fun l0 l1 l2 x st σ => dn_iload_n eL_law dL_law_523 rfl,
  fun l0 l1 l2 l3 st σ => dn_iconst eL_law dL_law_524 kc_iconst_1,
  fun l0 l1 l2 l3 x y st σ => dn_iadd eL_law dL_law_525,
  fun l0 l1 l2 l3 q i st σ => dn_iaload eL_law dL_law_526,
  fun l1 l2 l3 x st σ => dn_aload_n eL_law dL_law_527 rfl,
  fun l0 l1 l2 x st σ => dn_iload_n eL_law dL_law_528 rfl,
  fun l0 l1 l2 l3 st σ => dn_iconst eL_law dL_law_529 kc_iconst_2,
  fun l0 l1 l2 l3 x y st σ => dn_iadd eL_law dL_law_530,
  fun l0 l1 l2 l3 q i st σ => dn_iaload eL_law dL_law_531,
  fun l1 l2 l3 x st σ => dn_aload_n eL_law dL_law_532 rfl,
  fun l0 l1 l2 x st σ => dn_iload_n eL_law dL_law_533 rfl,
  fun l0 l1 l2 l3 st σ => dn_iconst eL_law dL_law_534 kc_iconst_3,
  fun l0 l1 l2 l3 x y st σ => dn_iadd eL_law dL_law_535,
  fun l0 l1 l2 l3 q i st σ => dn_iaload eL_law dL_law_536,
  fun l0 l1 l2 l3 a0 a1 a2 q σ => rL_law_537 l0 l1 l2 l3 a0 a1 a2 q σ,
  fun l0 l1 l3 x st σ => dn_aload_n eL_law dL_law_540 rfl,
  fun l1 l2 l3 x st σ => dn_aload_n eL_law dL_law_541 rfl,
  fun l0 l1 l2 x st σ => dn_iload_n eL_law dL_law_542 rfl,
  fun l0 l1 l2 l3 st σ => dn_iconst eL_law dL_law_543 kc_iconst_1,
  fun l0 l1 l2 l3 x y st σ => dn_iadd eL_law dL_law_544,
  fun l0 l1 l2 l3 q i st σ => dn_iaload eL_law dL_law_545,
  fun l1 l2 l3 x st σ => dn_aload_n eL_law dL_law_546 rfl,
  fun l0 l1 l2 x st σ => dn_iload_n eL_law dL_law_547 rfl,
  fun l0 l1 l2 l3 st σ => dn_iconst eL_law dL_law_548 kc_iconst_2,
  fun l0 l1 l2 l3 x y st σ => dn_iadd eL_law dL_law_549,
  fun l0 l1 l2 l3 q i st σ => dn_iaload eL_law dL_law_550,
  fun l1 l2 l3 x st σ => dn_aload_n eL_law dL_law_551 rfl,
  fun l0 l1 l2 x st σ => dn_iload_n eL_law dL_law_552 rfl,
  fun l0 l1 l2 l3 st σ => dn_iconst eL_law dL_law_553 kc_iconst_3,
  fun l0 l1 l2 l3 x y st σ => dn_iadd eL_law dL_law_554,
  fun l0 l1 l2 l3 q i st σ => dn_iaload eL_law dL_law_555,
  fun l0 l1 l2 l3 a0 a1 a2 b0 q σ => rL_law_556 l0 l1 l2 l3 a0 a1 a2 b0 q σ,
  fun l0 l1 l2 l3 x y st σ => dn_icmp_eq eL_law dL_law_559 (by decide),
  fun l0 l1 l2 l3 st σ => dn_iconst eL_law dL_law_562 kc_iconst_0,
  fun l0 l1 l2 l3 v σ => dn_zreturn eL_law dL_law_563 rfl,
  fun l0 l2 l3 x st σ => dn_aload_n eL_law dL_law_564 rfl⟩
set_option maxRecDepth 20000 in
theorem SL_law_8 : (∀ (l1 l2 l3 : Option Value) (x : Nat) (st : List Value) (σ : dS), den mL_law 565 [some (.ref x), l1, l2, l3] st σ = den mL_law 566 [some (.ref x), l1, l2, l3] (.ref x :: st) σ) ∧
  (∀ (l0 l1 l2 : Option Value) (x : Int32) (st : List Value) (σ : dS), den mL_law 566 [l0, l1, l2, some (.int x)] st σ = den mL_law 567 [l0, l1, l2, some (.int x)] (.int x :: st) σ) ∧
  (∀ (l0 l1 l2 l3 : Option Value) (st : List Value) (σ : dS), den mL_law 567 [l0, l1, l2, l3] st σ = den mL_law 568 [l0, l1, l2, l3] (.int (nI 1) :: st) σ) ∧
  (∀ (l0 l1 l2 l3 : Option Value) (x y : Int32) (st : List Value) (σ : dS), den mL_law 568 [l0, l1, l2, l3] (.int y :: .int x :: st) σ = den mL_law 569 [l0, l1, l2, l3] (.int (x + y) :: st) σ) ∧
  (∀ (l0 l1 l2 l3 : Option Value) (q : Nat) (i : Int32) (st : List Value) (σ : dS), den mL_law 569 [l0, l1, l2, l3] (.int i :: .ref q :: st) σ = if q ≤ dN then (dald σ q 0 i).bind (fun v => den mL_law 570 [l0, l1, l2, l3] (.int v :: st) σ) else none) ∧
  (∀ (l1 l2 l3 : Option Value) (x : Nat) (st : List Value) (σ : dS), den mL_law 570 [some (.ref x), l1, l2, l3] st σ = den mL_law 571 [some (.ref x), l1, l2, l3] (.ref x :: st) σ) ∧
  (∀ (l0 l1 l2 : Option Value) (x : Int32) (st : List Value) (σ : dS), den mL_law 571 [l0, l1, l2, some (.int x)] st σ = den mL_law 572 [l0, l1, l2, some (.int x)] (.int x :: st) σ) ∧
  (∀ (l0 l1 l2 l3 : Option Value) (st : List Value) (σ : dS), den mL_law 572 [l0, l1, l2, l3] st σ = den mL_law 573 [l0, l1, l2, l3] (.int (nI 2) :: st) σ) ∧
  (∀ (l0 l1 l2 l3 : Option Value) (x y : Int32) (st : List Value) (σ : dS), den mL_law 573 [l0, l1, l2, l3] (.int y :: .int x :: st) σ = den mL_law 574 [l0, l1, l2, l3] (.int (x + y) :: st) σ) ∧
  (∀ (l0 l1 l2 l3 : Option Value) (q : Nat) (i : Int32) (st : List Value) (σ : dS), den mL_law 574 [l0, l1, l2, l3] (.int i :: .ref q :: st) σ = if q ≤ dN then (dald σ q 0 i).bind (fun v => den mL_law 575 [l0, l1, l2, l3] (.int v :: st) σ) else none) ∧
  (∀ (l0 l1 l2 l3 : Option Value) (a0 : Int32) (a1 : Int32) (q : Nat) (σ : dS), den mL_law 575 [l0, l1, l2, l3] [.int a1, .int a0, .ref q] σ = if disO σ q 5 = true then ((dcall mX6_wish [.ref q, .int a0, .int a1] σ).bind fun r => den mL_law 578 [l0, l1, l2, l3] (r.1.toList ++ []) r.2) else none) ∧
  (∀ (l0 l1 l3 : Option Value) (x : Nat) (st : List Value) (σ : dS), den mL_law 578 [l0, l1, some (.ref x), l3] st σ = den mL_law 579 [l0, l1, some (.ref x), l3] (.ref x :: st) σ) ∧
  (∀ (l1 l2 l3 : Option Value) (x : Nat) (st : List Value) (σ : dS), den mL_law 579 [some (.ref x), l1, l2, l3] st σ = den mL_law 580 [some (.ref x), l1, l2, l3] (.ref x :: st) σ) ∧
  (∀ (l0 l1 l2 : Option Value) (x : Int32) (st : List Value) (σ : dS), den mL_law 580 [l0, l1, l2, some (.int x)] st σ = den mL_law 581 [l0, l1, l2, some (.int x)] (.int x :: st) σ) ∧
  (∀ (l0 l1 l2 l3 : Option Value) (st : List Value) (σ : dS), den mL_law 581 [l0, l1, l2, l3] st σ = den mL_law 582 [l0, l1, l2, l3] (.int (nI 1) :: st) σ) ∧
  (∀ (l0 l1 l2 l3 : Option Value) (x y : Int32) (st : List Value) (σ : dS), den mL_law 582 [l0, l1, l2, l3] (.int y :: .int x :: st) σ = den mL_law 583 [l0, l1, l2, l3] (.int (x + y) :: st) σ) ∧
  (∀ (l0 l1 l2 l3 : Option Value) (q : Nat) (i : Int32) (st : List Value) (σ : dS), den mL_law 583 [l0, l1, l2, l3] (.int i :: .ref q :: st) σ = if q ≤ dN then (dald σ q 0 i).bind (fun v => den mL_law 584 [l0, l1, l2, l3] (.int v :: st) σ) else none) ∧
  (∀ (l1 l2 l3 : Option Value) (x : Nat) (st : List Value) (σ : dS), den mL_law 584 [some (.ref x), l1, l2, l3] st σ = den mL_law 585 [some (.ref x), l1, l2, l3] (.ref x :: st) σ) ∧
  (∀ (l0 l1 l2 : Option Value) (x : Int32) (st : List Value) (σ : dS), den mL_law 585 [l0, l1, l2, some (.int x)] st σ = den mL_law 586 [l0, l1, l2, some (.int x)] (.int x :: st) σ) ∧
  (∀ (l0 l1 l2 l3 : Option Value) (st : List Value) (σ : dS), den mL_law 586 [l0, l1, l2, l3] st σ = den mL_law 587 [l0, l1, l2, l3] (.int (nI 2) :: st) σ) ∧
  (∀ (l0 l1 l2 l3 : Option Value) (x y : Int32) (st : List Value) (σ : dS), den mL_law 587 [l0, l1, l2, l3] (.int y :: .int x :: st) σ = den mL_law 588 [l0, l1, l2, l3] (.int (x + y) :: st) σ) ∧
  (∀ (l0 l1 l2 l3 : Option Value) (q : Nat) (i : Int32) (st : List Value) (σ : dS), den mL_law 588 [l0, l1, l2, l3] (.int i :: .ref q :: st) σ = if q ≤ dN then (dald σ q 0 i).bind (fun v => den mL_law 589 [l0, l1, l2, l3] (.int v :: st) σ) else none) ∧
  (∀ (l0 l1 l2 l3 : Option Value) (a0 : Int32) (a1 : Int32) (b0 : Int32) (q : Nat) (σ : dS), den mL_law 589 [l0, l1, l2, l3] [.int a1, .int a0, .ref q, .int b0] σ = if disO σ q 6 = true then ((dcall mX7_wish [.ref q, .int a0, .int a1] σ).bind fun r => den mL_law 592 [l0, l1, l2, l3] (r.1.toList ++ [.int b0]) r.2) else none) ∧
  (∀ (l0 l1 l2 l3 : Option Value) (x y : Int32) (st : List Value) (σ : dS), den mL_law 592 [l0, l1, l2, l3] (.int y :: .int x :: st) σ = if x = y then den mL_law 1057 [l0, l1, l2, l3] st σ else den mL_law 595 [l0, l1, l2, l3] st σ) ∧
  (∀ (l0 l1 l2 l3 : Option Value) (st : List Value) (σ : dS), den mL_law 595 [l0, l1, l2, l3] st σ = den mL_law 596 [l0, l1, l2, l3] (.int (nI 0) :: st) σ) ∧
  (∀ (l0 l1 l2 l3 : Option Value) (v : Int32) (σ : dS), den mL_law 596 [l0, l1, l2, l3] [.int v] σ = if v = 0 ∨ v = 1 then some (some (.int v), σ) else none) ∧
  (∀ (l0 l2 l3 : Option Value) (x : Nat) (st : List Value) (σ : dS), den mL_law 597 [l0, some (.ref x), l2, l3] st σ = den mL_law 598 [l0, some (.ref x), l2, l3] (.ref x :: st) σ) ∧
  (∀ (l1 l2 l3 : Option Value) (x : Nat) (st : List Value) (σ : dS), den mL_law 598 [some (.ref x), l1, l2, l3] st σ = den mL_law 599 [some (.ref x), l1, l2, l3] (.ref x :: st) σ) ∧
  (∀ (l0 l1 l2 : Option Value) (x : Int32) (st : List Value) (σ : dS), den mL_law 599 [l0, l1, l2, some (.int x)] st σ = den mL_law 600 [l0, l1, l2, some (.int x)] (.int x :: st) σ) ∧
  (∀ (l0 l1 l2 l3 : Option Value) (st : List Value) (σ : dS), den mL_law 600 [l0, l1, l2, l3] st σ = den mL_law 601 [l0, l1, l2, l3] (.int (nI 1) :: st) σ) ∧
  (∀ (l0 l1 l2 l3 : Option Value) (x y : Int32) (st : List Value) (σ : dS), den mL_law 601 [l0, l1, l2, l3] (.int y :: .int x :: st) σ = den mL_law 602 [l0, l1, l2, l3] (.int (x + y) :: st) σ) ∧
  (∀ (l0 l1 l2 l3 : Option Value) (q : Nat) (i : Int32) (st : List Value) (σ : dS), den mL_law 602 [l0, l1, l2, l3] (.int i :: .ref q :: st) σ = if q ≤ dN then (dald σ q 0 i).bind (fun v => den mL_law 603 [l0, l1, l2, l3] (.int v :: st) σ) else none) ∧
  (∀ (l1 l2 l3 : Option Value) (x : Nat) (st : List Value) (σ : dS), den mL_law 603 [some (.ref x), l1, l2, l3] st σ = den mL_law 604 [some (.ref x), l1, l2, l3] (.ref x :: st) σ) ∧
  (∀ (l0 l1 l2 : Option Value) (x : Int32) (st : List Value) (σ : dS), den mL_law 604 [l0, l1, l2, some (.int x)] st σ = den mL_law 605 [l0, l1, l2, some (.int x)] (.int x :: st) σ) ∧
  (∀ (l0 l1 l2 l3 : Option Value) (st : List Value) (σ : dS), den mL_law 605 [l0, l1, l2, l3] st σ = den mL_law 606 [l0, l1, l2, l3] (.int (nI 2) :: st) σ) ∧
  (∀ (l0 l1 l2 l3 : Option Value) (x y : Int32) (st : List Value) (σ : dS), den mL_law 606 [l0, l1, l2, l3] (.int y :: .int x :: st) σ = den mL_law 607 [l0, l1, l2, l3] (.int (x + y) :: st) σ) ∧
  (∀ (l0 l1 l2 l3 : Option Value) (q : Nat) (i : Int32) (st : List Value) (σ : dS), den mL_law 607 [l0, l1, l2, l3] (.int i :: .ref q :: st) σ = if q ≤ dN then (dald σ q 0 i).bind (fun v => den mL_law 608 [l0, l1, l2, l3] (.int v :: st) σ) else none) ∧
  (∀ (l0 l1 l2 l3 : Option Value) (a0 : Int32) (a1 : Int32) (q : Nat) (σ : dS), den mL_law 608 [l0, l1, l2, l3] [.int a1, .int a0, .ref q] σ = if disO σ q 5 = true then ((dcall mX6_want [.ref q, .int a0, .int a1] σ).bind fun r => den mL_law 611 [l0, l1, l2, l3] (r.1.toList ++ []) r.2) else none) ∧
  (∀ (l0 l1 l3 : Option Value) (x : Nat) (st : List Value) (σ : dS), den mL_law 611 [l0, l1, some (.ref x), l3] st σ = den mL_law 612 [l0, l1, some (.ref x), l3] (.ref x :: st) σ) ∧
  (∀ (l1 l2 l3 : Option Value) (x : Nat) (st : List Value) (σ : dS), den mL_law 612 [some (.ref x), l1, l2, l3] st σ = den mL_law 613 [some (.ref x), l1, l2, l3] (.ref x :: st) σ) :=
  ⟨fun l1 l2 l3 x st σ => dn_aload_n eL_law dL_law_565 rfl,
  fun l0 l1 l2 x st σ => dn_iload_n eL_law dL_law_566 rfl,
  fun l0 l1 l2 l3 st σ => dn_iconst eL_law dL_law_567 kc_iconst_1,
  fun l0 l1 l2 l3 x y st σ => dn_iadd eL_law dL_law_568,
  fun l0 l1 l2 l3 q i st σ => dn_iaload eL_law dL_law_569,
  fun l1 l2 l3 x st σ => dn_aload_n eL_law dL_law_570 rfl,
  fun l0 l1 l2 x st σ => dn_iload_n eL_law dL_law_571 rfl,
  fun l0 l1 l2 l3 st σ => dn_iconst eL_law dL_law_572 kc_iconst_2,
  fun l0 l1 l2 l3 x y st σ => dn_iadd eL_law dL_law_573,
  fun l0 l1 l2 l3 q i st σ => dn_iaload eL_law dL_law_574,
  fun l0 l1 l2 l3 a0 a1 q σ => rL_law_575 l0 l1 l2 l3 a0 a1 q σ,
  fun l0 l1 l3 x st σ => dn_aload_n eL_law dL_law_578 rfl,
  fun l1 l2 l3 x st σ => dn_aload_n eL_law dL_law_579 rfl,
  fun l0 l1 l2 x st σ => dn_iload_n eL_law dL_law_580 rfl,
  fun l0 l1 l2 l3 st σ => dn_iconst eL_law dL_law_581 kc_iconst_1,
  fun l0 l1 l2 l3 x y st σ => dn_iadd eL_law dL_law_582,
  fun l0 l1 l2 l3 q i st σ => dn_iaload eL_law dL_law_583,
  fun l1 l2 l3 x st σ => dn_aload_n eL_law dL_law_584 rfl,
  fun l0 l1 l2 x st σ => dn_iload_n eL_law dL_law_585 rfl,
  fun l0 l1 l2 l3 st σ => dn_iconst eL_law dL_law_586 kc_iconst_2,
  fun l0 l1 l2 l3 x y st σ => dn_iadd eL_law dL_law_587,
  fun l0 l1 l2 l3 q i st σ => dn_iaload eL_law dL_law_588,
  fun l0 l1 l2 l3 a0 a1 b0 q σ => rL_law_589 l0 l1 l2 l3 a0 a1 b0 q σ,
  fun l0 l1 l2 l3 x y st σ => dn_icmp_eq eL_law dL_law_592 (by decide),
  fun l0 l1 l2 l3 st σ => dn_iconst eL_law dL_law_595 kc_iconst_0,
  fun l0 l1 l2 l3 v σ => dn_zreturn eL_law dL_law_596 rfl,
  fun l0 l2 l3 x st σ => dn_aload_n eL_law dL_law_597 rfl,
  fun l1 l2 l3 x st σ => dn_aload_n eL_law dL_law_598 rfl,
  fun l0 l1 l2 x st σ => dn_iload_n eL_law dL_law_599 rfl,
  fun l0 l1 l2 l3 st σ => dn_iconst eL_law dL_law_600 kc_iconst_1,
  fun l0 l1 l2 l3 x y st σ => dn_iadd eL_law dL_law_601,
  fun l0 l1 l2 l3 q i st σ => dn_iaload eL_law dL_law_602,
  fun l1 l2 l3 x st σ => dn_aload_n eL_law dL_law_603 rfl,
  fun l0 l1 l2 x st σ => dn_iload_n eL_law dL_law_604 rfl,
  fun l0 l1 l2 l3 st σ => dn_iconst eL_law dL_law_605 kc_iconst_2,
  fun l0 l1 l2 l3 x y st σ => dn_iadd eL_law dL_law_606,
  fun l0 l1 l2 l3 q i st σ => dn_iaload eL_law dL_law_607,
  fun l0 l1 l2 l3 a0 a1 q σ => rL_law_608 l0 l1 l2 l3 a0 a1 q σ,
  fun l0 l1 l3 x st σ => dn_aload_n eL_law dL_law_611 rfl,
  fun l1 l2 l3 x st σ => dn_aload_n eL_law dL_law_612 rfl⟩
set_option maxRecDepth 20000 in
theorem SL_law_9 : (∀ (l0 l1 l2 : Option Value) (x : Int32) (st : List Value) (σ : dS), den mL_law 613 [l0, l1, l2, some (.int x)] st σ = den mL_law 614 [l0, l1, l2, some (.int x)] (.int x :: st) σ) ∧
  (∀ (l0 l1 l2 l3 : Option Value) (st : List Value) (σ : dS), den mL_law 614 [l0, l1, l2, l3] st σ = den mL_law 615 [l0, l1, l2, l3] (.int (nI 1) :: st) σ) ∧
  (∀ (l0 l1 l2 l3 : Option Value) (x y : Int32) (st : List Value) (σ : dS), den mL_law 615 [l0, l1, l2, l3] (.int y :: .int x :: st) σ = den mL_law 616 [l0, l1, l2, l3] (.int (x + y) :: st) σ) ∧
  (∀ (l0 l1 l2 l3 : Option Value) (q : Nat) (i : Int32) (st : List Value) (σ : dS), den mL_law 616 [l0, l1, l2, l3] (.int i :: .ref q :: st) σ = if q ≤ dN then (dald σ q 0 i).bind (fun v => den mL_law 617 [l0, l1, l2, l3] (.int v :: st) σ) else none) ∧
  (∀ (l1 l2 l3 : Option Value) (x : Nat) (st : List Value) (σ : dS), den mL_law 617 [some (.ref x), l1, l2, l3] st σ = den mL_law 618 [some (.ref x), l1, l2, l3] (.ref x :: st) σ) ∧
  (∀ (l0 l1 l2 : Option Value) (x : Int32) (st : List Value) (σ : dS), den mL_law 618 [l0, l1, l2, some (.int x)] st σ = den mL_law 619 [l0, l1, l2, some (.int x)] (.int x :: st) σ) ∧
  (∀ (l0 l1 l2 l3 : Option Value) (st : List Value) (σ : dS), den mL_law 619 [l0, l1, l2, l3] st σ = den mL_law 620 [l0, l1, l2, l3] (.int (nI 2) :: st) σ) ∧
  (∀ (l0 l1 l2 l3 : Option Value) (x y : Int32) (st : List Value) (σ : dS), den mL_law 620 [l0, l1, l2, l3] (.int y :: .int x :: st) σ = den mL_law 621 [l0, l1, l2, l3] (.int (x + y) :: st) σ) ∧
  (∀ (l0 l1 l2 l3 : Option Value) (q : Nat) (i : Int32) (st : List Value) (σ : dS), den mL_law 621 [l0, l1, l2, l3] (.int i :: .ref q :: st) σ = if q ≤ dN then (dald σ q 0 i).bind (fun v => den mL_law 622 [l0, l1, l2, l3] (.int v :: st) σ) else none) ∧
  (∀ (l0 l1 l2 l3 : Option Value) (a0 : Int32) (a1 : Int32) (b0 : Int32) (q : Nat) (σ : dS), den mL_law 622 [l0, l1, l2, l3] [.int a1, .int a0, .ref q, .int b0] σ = if disO σ q 6 = true then ((dcall mX7_want [.ref q, .int a0, .int a1] σ).bind fun r => den mL_law 625 [l0, l1, l2, l3] (r.1.toList ++ [.int b0]) r.2) else none) ∧
  (∀ (l0 l1 l2 l3 : Option Value) (x y : Int32) (st : List Value) (σ : dS), den mL_law 625 [l0, l1, l2, l3] (.int y :: .int x :: st) σ = if x = y then den mL_law 1057 [l0, l1, l2, l3] st σ else den mL_law 628 [l0, l1, l2, l3] st σ) ∧
  (∀ (l0 l1 l2 l3 : Option Value) (st : List Value) (σ : dS), den mL_law 628 [l0, l1, l2, l3] st σ = den mL_law 629 [l0, l1, l2, l3] (.int (nI 0) :: st) σ) ∧
  (∀ (l0 l1 l2 l3 : Option Value) (v : Int32) (σ : dS), den mL_law 629 [l0, l1, l2, l3] [.int v] σ = if v = 0 ∨ v = 1 then some (some (.int v), σ) else none) ∧
  (∀ (l0 l2 l3 : Option Value) (x : Nat) (st : List Value) (σ : dS), den mL_law 630 [l0, some (.ref x), l2, l3] st σ = den mL_law 631 [l0, some (.ref x), l2, l3] (.ref x :: st) σ) ∧
  (∀ (l1 l2 l3 : Option Value) (x : Nat) (st : List Value) (σ : dS), den mL_law 631 [some (.ref x), l1, l2, l3] st σ = den mL_law 632 [some (.ref x), l1, l2, l3] (.ref x :: st) σ) ∧
  (∀ (l0 l1 l2 : Option Value) (x : Int32) (st : List Value) (σ : dS), den mL_law 632 [l0, l1, l2, some (.int x)] st σ = den mL_law 633 [l0, l1, l2, some (.int x)] (.int x :: st) σ) ∧
  (∀ (l0 l1 l2 l3 : Option Value) (st : List Value) (σ : dS), den mL_law 633 [l0, l1, l2, l3] st σ = den mL_law 634 [l0, l1, l2, l3] (.int (nI 1) :: st) σ) ∧
  (∀ (l0 l1 l2 l3 : Option Value) (x y : Int32) (st : List Value) (σ : dS), den mL_law 634 [l0, l1, l2, l3] (.int y :: .int x :: st) σ = den mL_law 635 [l0, l1, l2, l3] (.int (x + y) :: st) σ) ∧
  (∀ (l0 l1 l2 l3 : Option Value) (q : Nat) (i : Int32) (st : List Value) (σ : dS), den mL_law 635 [l0, l1, l2, l3] (.int i :: .ref q :: st) σ = if q ≤ dN then (dald σ q 0 i).bind (fun v => den mL_law 636 [l0, l1, l2, l3] (.int v :: st) σ) else none) ∧
  (∀ (l0 l1 l2 l3 : Option Value) (a0 : Int32) (q : Nat) (σ : dS), den mL_law 636 [l0, l1, l2, l3] [.int a0, .ref q] σ = if disO σ q 5 = true then ((dcall mX6_mean [.ref q, .int a0] σ).bind fun r => den mL_law 639 [l0, l1, l2, l3] (r.1.toList ++ []) r.2) else none) ∧
  (∀ (l0 l1 l3 : Option Value) (x : Nat) (st : List Value) (σ : dS), den mL_law 639 [l0, l1, some (.ref x), l3] st σ = den mL_law 640 [l0, l1, some (.ref x), l3] (.ref x :: st) σ) ∧
  (∀ (l1 l2 l3 : Option Value) (x : Nat) (st : List Value) (σ : dS), den mL_law 640 [some (.ref x), l1, l2, l3] st σ = den mL_law 641 [some (.ref x), l1, l2, l3] (.ref x :: st) σ) ∧
  (∀ (l0 l1 l2 : Option Value) (x : Int32) (st : List Value) (σ : dS), den mL_law 641 [l0, l1, l2, some (.int x)] st σ = den mL_law 642 [l0, l1, l2, some (.int x)] (.int x :: st) σ) ∧
  (∀ (l0 l1 l2 l3 : Option Value) (st : List Value) (σ : dS), den mL_law 642 [l0, l1, l2, l3] st σ = den mL_law 643 [l0, l1, l2, l3] (.int (nI 1) :: st) σ) ∧
  (∀ (l0 l1 l2 l3 : Option Value) (x y : Int32) (st : List Value) (σ : dS), den mL_law 643 [l0, l1, l2, l3] (.int y :: .int x :: st) σ = den mL_law 644 [l0, l1, l2, l3] (.int (x + y) :: st) σ) ∧
  (∀ (l0 l1 l2 l3 : Option Value) (q : Nat) (i : Int32) (st : List Value) (σ : dS), den mL_law 644 [l0, l1, l2, l3] (.int i :: .ref q :: st) σ = if q ≤ dN then (dald σ q 0 i).bind (fun v => den mL_law 645 [l0, l1, l2, l3] (.int v :: st) σ) else none) ∧
  (∀ (l0 l1 l2 l3 : Option Value) (a0 : Int32) (b0 : Int64) (q : Nat) (σ : dS), den mL_law 645 [l0, l1, l2, l3] [.int a0, .ref q, .long b0] σ = if disO σ q 6 = true then ((dcall mX7_mean [.ref q, .int a0] σ).bind fun r => den mL_law 648 [l0, l1, l2, l3] (r.1.toList ++ [.long b0]) r.2) else none) ∧
  (∀ (l0 l1 l2 l3 : Option Value) (x y : Int64) (st : List Value) (σ : dS), den mL_law 648 [l0, l1, l2, l3] (.long y :: .long x :: st) σ = den mL_law 649 [l0, l1, l2, l3] (.int (lg_cmp x y) :: st) σ) ∧
  (∀ (l0 l1 l2 l3 : Option Value) (x : Int32) (st : List Value) (σ : dS), den mL_law 649 [l0, l1, l2, l3] (.int x :: st) σ = if x = 0 then den mL_law 1057 [l0, l1, l2, l3] st σ else den mL_law 652 [l0, l1, l2, l3] st σ) ∧
  (∀ (l0 l1 l2 l3 : Option Value) (st : List Value) (σ : dS), den mL_law 652 [l0, l1, l2, l3] st σ = den mL_law 653 [l0, l1, l2, l3] (.int (nI 0) :: st) σ) ∧
  (∀ (l0 l1 l2 l3 : Option Value) (v : Int32) (σ : dS), den mL_law 653 [l0, l1, l2, l3] [.int v] σ = if v = 0 ∨ v = 1 then some (some (.int v), σ) else none) ∧
  (∀ (l0 l2 l3 : Option Value) (x : Nat) (st : List Value) (σ : dS), den mL_law 654 [l0, some (.ref x), l2, l3] st σ = den mL_law 655 [l0, some (.ref x), l2, l3] (.ref x :: st) σ) ∧
  (∀ (l1 l2 l3 : Option Value) (x : Nat) (st : List Value) (σ : dS), den mL_law 655 [some (.ref x), l1, l2, l3] st σ = den mL_law 656 [some (.ref x), l1, l2, l3] (.ref x :: st) σ) ∧
  (∀ (l0 l1 l2 : Option Value) (x : Int32) (st : List Value) (σ : dS), den mL_law 656 [l0, l1, l2, some (.int x)] st σ = den mL_law 657 [l0, l1, l2, some (.int x)] (.int x :: st) σ) ∧
  (∀ (l0 l1 l2 l3 : Option Value) (st : List Value) (σ : dS), den mL_law 657 [l0, l1, l2, l3] st σ = den mL_law 658 [l0, l1, l2, l3] (.int (nI 1) :: st) σ) ∧
  (∀ (l0 l1 l2 l3 : Option Value) (x y : Int32) (st : List Value) (σ : dS), den mL_law 658 [l0, l1, l2, l3] (.int y :: .int x :: st) σ = den mL_law 659 [l0, l1, l2, l3] (.int (x + y) :: st) σ) ∧
  (∀ (l0 l1 l2 l3 : Option Value) (q : Nat) (i : Int32) (st : List Value) (σ : dS), den mL_law 659 [l0, l1, l2, l3] (.int i :: .ref q :: st) σ = if q ≤ dN then (dald σ q 0 i).bind (fun v => den mL_law 660 [l0, l1, l2, l3] (.int v :: st) σ) else none) ∧
  (∀ (l1 l2 l3 : Option Value) (x : Nat) (st : List Value) (σ : dS), den mL_law 660 [some (.ref x), l1, l2, l3] st σ = den mL_law 661 [some (.ref x), l1, l2, l3] (.ref x :: st) σ) ∧
  (∀ (l0 l1 l2 : Option Value) (x : Int32) (st : List Value) (σ : dS), den mL_law 661 [l0, l1, l2, some (.int x)] st σ = den mL_law 662 [l0, l1, l2, some (.int x)] (.int x :: st) σ) ∧
  (∀ (l0 l1 l2 l3 : Option Value) (st : List Value) (σ : dS), den mL_law 662 [l0, l1, l2, l3] st σ = den mL_law 663 [l0, l1, l2, l3] (.int (nI 2) :: st) σ) :=
  ⟨fun l0 l1 l2 x st σ => dn_iload_n eL_law dL_law_613 rfl,
  fun l0 l1 l2 l3 st σ => dn_iconst eL_law dL_law_614 kc_iconst_1,
  fun l0 l1 l2 l3 x y st σ => dn_iadd eL_law dL_law_615,
  fun l0 l1 l2 l3 q i st σ => dn_iaload eL_law dL_law_616,
  fun l1 l2 l3 x st σ => dn_aload_n eL_law dL_law_617 rfl,
  fun l0 l1 l2 x st σ => dn_iload_n eL_law dL_law_618 rfl,
  fun l0 l1 l2 l3 st σ => dn_iconst eL_law dL_law_619 kc_iconst_2,
  fun l0 l1 l2 l3 x y st σ => dn_iadd eL_law dL_law_620,
  fun l0 l1 l2 l3 q i st σ => dn_iaload eL_law dL_law_621,
  fun l0 l1 l2 l3 a0 a1 b0 q σ => rL_law_622 l0 l1 l2 l3 a0 a1 b0 q σ,
  fun l0 l1 l2 l3 x y st σ => dn_icmp_eq eL_law dL_law_625 (by decide),
  fun l0 l1 l2 l3 st σ => dn_iconst eL_law dL_law_628 kc_iconst_0,
  fun l0 l1 l2 l3 v σ => dn_zreturn eL_law dL_law_629 rfl,
  fun l0 l2 l3 x st σ => dn_aload_n eL_law dL_law_630 rfl,
  fun l1 l2 l3 x st σ => dn_aload_n eL_law dL_law_631 rfl,
  fun l0 l1 l2 x st σ => dn_iload_n eL_law dL_law_632 rfl,
  fun l0 l1 l2 l3 st σ => dn_iconst eL_law dL_law_633 kc_iconst_1,
  fun l0 l1 l2 l3 x y st σ => dn_iadd eL_law dL_law_634,
  fun l0 l1 l2 l3 q i st σ => dn_iaload eL_law dL_law_635,
  fun l0 l1 l2 l3 a0 q σ => rL_law_636 l0 l1 l2 l3 a0 q σ,
  fun l0 l1 l3 x st σ => dn_aload_n eL_law dL_law_639 rfl,
  fun l1 l2 l3 x st σ => dn_aload_n eL_law dL_law_640 rfl,
  fun l0 l1 l2 x st σ => dn_iload_n eL_law dL_law_641 rfl,
  fun l0 l1 l2 l3 st σ => dn_iconst eL_law dL_law_642 kc_iconst_1,
  fun l0 l1 l2 l3 x y st σ => dn_iadd eL_law dL_law_643,
  fun l0 l1 l2 l3 q i st σ => dn_iaload eL_law dL_law_644,
  fun l0 l1 l2 l3 a0 b0 q σ => rL_law_645 l0 l1 l2 l3 a0 b0 q σ,
  fun l0 l1 l2 l3 x y st σ => dn_lcmp eL_law dL_law_648,
  fun l0 l1 l2 l3 x st σ => dn_if_eq eL_law dL_law_649 (by decide),
  fun l0 l1 l2 l3 st σ => dn_iconst eL_law dL_law_652 kc_iconst_0,
  fun l0 l1 l2 l3 v σ => dn_zreturn eL_law dL_law_653 rfl,
  fun l0 l2 l3 x st σ => dn_aload_n eL_law dL_law_654 rfl,
  fun l1 l2 l3 x st σ => dn_aload_n eL_law dL_law_655 rfl,
  fun l0 l1 l2 x st σ => dn_iload_n eL_law dL_law_656 rfl,
  fun l0 l1 l2 l3 st σ => dn_iconst eL_law dL_law_657 kc_iconst_1,
  fun l0 l1 l2 l3 x y st σ => dn_iadd eL_law dL_law_658,
  fun l0 l1 l2 l3 q i st σ => dn_iaload eL_law dL_law_659,
  fun l1 l2 l3 x st σ => dn_aload_n eL_law dL_law_660 rfl,
  fun l0 l1 l2 x st σ => dn_iload_n eL_law dL_law_661 rfl,
  fun l0 l1 l2 l3 st σ => dn_iconst eL_law dL_law_662 kc_iconst_2⟩
set_option maxRecDepth 20000 in
theorem SL_law_10 : (∀ (l0 l1 l2 l3 : Option Value) (x y : Int32) (st : List Value) (σ : dS), den mL_law 663 [l0, l1, l2, l3] (.int y :: .int x :: st) σ = den mL_law 664 [l0, l1, l2, l3] (.int (x + y) :: st) σ) ∧
  (∀ (l0 l1 l2 l3 : Option Value) (q : Nat) (i : Int32) (st : List Value) (σ : dS), den mL_law 664 [l0, l1, l2, l3] (.int i :: .ref q :: st) σ = if q ≤ dN then (dald σ q 0 i).bind (fun v => den mL_law 665 [l0, l1, l2, l3] (.int v :: st) σ) else none) ∧
  (∀ (l0 l1 l2 l3 : Option Value) (a0 : Int32) (a1 : Int32) (q : Nat) (σ : dS), den mL_law 665 [l0, l1, l2, l3] [.int a1, .int a0, .ref q] σ = if disO σ q 5 = true then ((dcall mX6_odds [.ref q, .int a0, .int a1] σ).bind fun r => den mL_law 668 [l0, l1, l2, l3] (r.1.toList ++ []) r.2) else none) ∧
  (∀ (l0 l1 l3 : Option Value) (x : Nat) (st : List Value) (σ : dS), den mL_law 668 [l0, l1, some (.ref x), l3] st σ = den mL_law 669 [l0, l1, some (.ref x), l3] (.ref x :: st) σ) ∧
  (∀ (l1 l2 l3 : Option Value) (x : Nat) (st : List Value) (σ : dS), den mL_law 669 [some (.ref x), l1, l2, l3] st σ = den mL_law 670 [some (.ref x), l1, l2, l3] (.ref x :: st) σ) ∧
  (∀ (l0 l1 l2 : Option Value) (x : Int32) (st : List Value) (σ : dS), den mL_law 670 [l0, l1, l2, some (.int x)] st σ = den mL_law 671 [l0, l1, l2, some (.int x)] (.int x :: st) σ) ∧
  (∀ (l0 l1 l2 l3 : Option Value) (st : List Value) (σ : dS), den mL_law 671 [l0, l1, l2, l3] st σ = den mL_law 672 [l0, l1, l2, l3] (.int (nI 1) :: st) σ) ∧
  (∀ (l0 l1 l2 l3 : Option Value) (x y : Int32) (st : List Value) (σ : dS), den mL_law 672 [l0, l1, l2, l3] (.int y :: .int x :: st) σ = den mL_law 673 [l0, l1, l2, l3] (.int (x + y) :: st) σ) ∧
  (∀ (l0 l1 l2 l3 : Option Value) (q : Nat) (i : Int32) (st : List Value) (σ : dS), den mL_law 673 [l0, l1, l2, l3] (.int i :: .ref q :: st) σ = if q ≤ dN then (dald σ q 0 i).bind (fun v => den mL_law 674 [l0, l1, l2, l3] (.int v :: st) σ) else none) ∧
  (∀ (l1 l2 l3 : Option Value) (x : Nat) (st : List Value) (σ : dS), den mL_law 674 [some (.ref x), l1, l2, l3] st σ = den mL_law 675 [some (.ref x), l1, l2, l3] (.ref x :: st) σ) ∧
  (∀ (l0 l1 l2 : Option Value) (x : Int32) (st : List Value) (σ : dS), den mL_law 675 [l0, l1, l2, some (.int x)] st σ = den mL_law 676 [l0, l1, l2, some (.int x)] (.int x :: st) σ) ∧
  (∀ (l0 l1 l2 l3 : Option Value) (st : List Value) (σ : dS), den mL_law 676 [l0, l1, l2, l3] st σ = den mL_law 677 [l0, l1, l2, l3] (.int (nI 2) :: st) σ) ∧
  (∀ (l0 l1 l2 l3 : Option Value) (x y : Int32) (st : List Value) (σ : dS), den mL_law 677 [l0, l1, l2, l3] (.int y :: .int x :: st) σ = den mL_law 678 [l0, l1, l2, l3] (.int (x + y) :: st) σ) ∧
  (∀ (l0 l1 l2 l3 : Option Value) (q : Nat) (i : Int32) (st : List Value) (σ : dS), den mL_law 678 [l0, l1, l2, l3] (.int i :: .ref q :: st) σ = if q ≤ dN then (dald σ q 0 i).bind (fun v => den mL_law 679 [l0, l1, l2, l3] (.int v :: st) σ) else none) ∧
  (∀ (l0 l1 l2 l3 : Option Value) (a0 : Int32) (a1 : Int32) (b0 : Int64) (q : Nat) (σ : dS), den mL_law 679 [l0, l1, l2, l3] [.int a1, .int a0, .ref q, .long b0] σ = if disO σ q 6 = true then ((dcall mX7_odds [.ref q, .int a0, .int a1] σ).bind fun r => den mL_law 682 [l0, l1, l2, l3] (r.1.toList ++ [.long b0]) r.2) else none) ∧
  (∀ (l0 l1 l2 l3 : Option Value) (x y : Int64) (st : List Value) (σ : dS), den mL_law 682 [l0, l1, l2, l3] (.long y :: .long x :: st) σ = den mL_law 683 [l0, l1, l2, l3] (.int (lg_cmp x y) :: st) σ) ∧
  (∀ (l0 l1 l2 l3 : Option Value) (x : Int32) (st : List Value) (σ : dS), den mL_law 683 [l0, l1, l2, l3] (.int x :: st) σ = if x = 0 then den mL_law 1057 [l0, l1, l2, l3] st σ else den mL_law 686 [l0, l1, l2, l3] st σ) ∧
  (∀ (l0 l1 l2 l3 : Option Value) (st : List Value) (σ : dS), den mL_law 686 [l0, l1, l2, l3] st σ = den mL_law 687 [l0, l1, l2, l3] (.int (nI 0) :: st) σ) ∧
  (∀ (l0 l1 l2 l3 : Option Value) (v : Int32) (σ : dS), den mL_law 687 [l0, l1, l2, l3] [.int v] σ = if v = 0 ∨ v = 1 then some (some (.int v), σ) else none) ∧
  (∀ (l0 l2 l3 : Option Value) (x : Nat) (st : List Value) (σ : dS), den mL_law 688 [l0, some (.ref x), l2, l3] st σ = den mL_law 689 [l0, some (.ref x), l2, l3] (.ref x :: st) σ) ∧
  (∀ (l1 l2 l3 : Option Value) (x : Nat) (st : List Value) (σ : dS), den mL_law 689 [some (.ref x), l1, l2, l3] st σ = den mL_law 690 [some (.ref x), l1, l2, l3] (.ref x :: st) σ) ∧
  (∀ (l0 l1 l2 : Option Value) (x : Int32) (st : List Value) (σ : dS), den mL_law 690 [l0, l1, l2, some (.int x)] st σ = den mL_law 691 [l0, l1, l2, some (.int x)] (.int x :: st) σ) ∧
  (∀ (l0 l1 l2 l3 : Option Value) (st : List Value) (σ : dS), den mL_law 691 [l0, l1, l2, l3] st σ = den mL_law 692 [l0, l1, l2, l3] (.int (nI 1) :: st) σ) ∧
  (∀ (l0 l1 l2 l3 : Option Value) (x y : Int32) (st : List Value) (σ : dS), den mL_law 692 [l0, l1, l2, l3] (.int y :: .int x :: st) σ = den mL_law 693 [l0, l1, l2, l3] (.int (x + y) :: st) σ) ∧
  (∀ (l0 l1 l2 l3 : Option Value) (q : Nat) (i : Int32) (st : List Value) (σ : dS), den mL_law 693 [l0, l1, l2, l3] (.int i :: .ref q :: st) σ = if q ≤ dN then (dald σ q 0 i).bind (fun v => den mL_law 694 [l0, l1, l2, l3] (.int v :: st) σ) else none) ∧
  (∀ (l0 l1 l2 l3 : Option Value) (a0 : Int32) (q : Nat) (σ : dS), den mL_law 694 [l0, l1, l2, l3] [.int a0, .ref q] σ = if disO σ q 5 = true then ((dcall mX6_live [.ref q, .int a0] σ).bind fun r => den mL_law 697 [l0, l1, l2, l3] (r.1.toList ++ []) r.2) else none) ∧
  (∀ (l0 l1 l3 : Option Value) (x : Nat) (st : List Value) (σ : dS), den mL_law 697 [l0, l1, some (.ref x), l3] st σ = den mL_law 698 [l0, l1, some (.ref x), l3] (.ref x :: st) σ) ∧
  (∀ (l1 l2 l3 : Option Value) (x : Nat) (st : List Value) (σ : dS), den mL_law 698 [some (.ref x), l1, l2, l3] st σ = den mL_law 699 [some (.ref x), l1, l2, l3] (.ref x :: st) σ) ∧
  (∀ (l0 l1 l2 : Option Value) (x : Int32) (st : List Value) (σ : dS), den mL_law 699 [l0, l1, l2, some (.int x)] st σ = den mL_law 700 [l0, l1, l2, some (.int x)] (.int x :: st) σ) ∧
  (∀ (l0 l1 l2 l3 : Option Value) (st : List Value) (σ : dS), den mL_law 700 [l0, l1, l2, l3] st σ = den mL_law 701 [l0, l1, l2, l3] (.int (nI 1) :: st) σ) ∧
  (∀ (l0 l1 l2 l3 : Option Value) (x y : Int32) (st : List Value) (σ : dS), den mL_law 701 [l0, l1, l2, l3] (.int y :: .int x :: st) σ = den mL_law 702 [l0, l1, l2, l3] (.int (x + y) :: st) σ) ∧
  (∀ (l0 l1 l2 l3 : Option Value) (q : Nat) (i : Int32) (st : List Value) (σ : dS), den mL_law 702 [l0, l1, l2, l3] (.int i :: .ref q :: st) σ = if q ≤ dN then (dald σ q 0 i).bind (fun v => den mL_law 703 [l0, l1, l2, l3] (.int v :: st) σ) else none) ∧
  (∀ (l0 l1 l2 l3 : Option Value) (a0 : Int32) (b0 : Int32) (q : Nat) (σ : dS), den mL_law 703 [l0, l1, l2, l3] [.int a0, .ref q, .int b0] σ = if disO σ q 6 = true then ((dcall mX7_live [.ref q, .int a0] σ).bind fun r => den mL_law 706 [l0, l1, l2, l3] (r.1.toList ++ [.int b0]) r.2) else none) ∧
  (∀ (l0 l1 l2 l3 : Option Value) (x y : Int32) (st : List Value) (σ : dS), den mL_law 706 [l0, l1, l2, l3] (.int y :: .int x :: st) σ = if x = y then den mL_law 1057 [l0, l1, l2, l3] st σ else den mL_law 709 [l0, l1, l2, l3] st σ) ∧
  (∀ (l0 l1 l2 l3 : Option Value) (st : List Value) (σ : dS), den mL_law 709 [l0, l1, l2, l3] st σ = den mL_law 710 [l0, l1, l2, l3] (.int (nI 0) :: st) σ) ∧
  (∀ (l0 l1 l2 l3 : Option Value) (v : Int32) (σ : dS), den mL_law 710 [l0, l1, l2, l3] [.int v] σ = if v = 0 ∨ v = 1 then some (some (.int v), σ) else none) ∧
  (∀ (l0 l2 l3 : Option Value) (x : Nat) (st : List Value) (σ : dS), den mL_law 711 [l0, some (.ref x), l2, l3] st σ = den mL_law 712 [l0, some (.ref x), l2, l3] (.ref x :: st) σ) ∧
  (∀ (l1 l2 l3 : Option Value) (x : Nat) (st : List Value) (σ : dS), den mL_law 712 [some (.ref x), l1, l2, l3] st σ = den mL_law 713 [some (.ref x), l1, l2, l3] (.ref x :: st) σ) ∧
  (∀ (l0 l1 l2 : Option Value) (x : Int32) (st : List Value) (σ : dS), den mL_law 713 [l0, l1, l2, some (.int x)] st σ = den mL_law 714 [l0, l1, l2, some (.int x)] (.int x :: st) σ) ∧
  (∀ (l0 l1 l2 l3 : Option Value) (st : List Value) (σ : dS), den mL_law 714 [l0, l1, l2, l3] st σ = den mL_law 715 [l0, l1, l2, l3] (.int (nI 1) :: st) σ) :=
  ⟨fun l0 l1 l2 l3 x y st σ => dn_iadd eL_law dL_law_663,
  fun l0 l1 l2 l3 q i st σ => dn_iaload eL_law dL_law_664,
  fun l0 l1 l2 l3 a0 a1 q σ => rL_law_665 l0 l1 l2 l3 a0 a1 q σ,
  fun l0 l1 l3 x st σ => dn_aload_n eL_law dL_law_668 rfl,
  fun l1 l2 l3 x st σ => dn_aload_n eL_law dL_law_669 rfl,
  fun l0 l1 l2 x st σ => dn_iload_n eL_law dL_law_670 rfl,
  fun l0 l1 l2 l3 st σ => dn_iconst eL_law dL_law_671 kc_iconst_1,
  fun l0 l1 l2 l3 x y st σ => dn_iadd eL_law dL_law_672,
  fun l0 l1 l2 l3 q i st σ => dn_iaload eL_law dL_law_673,
  fun l1 l2 l3 x st σ => dn_aload_n eL_law dL_law_674 rfl,
  fun l0 l1 l2 x st σ => dn_iload_n eL_law dL_law_675 rfl,
  fun l0 l1 l2 l3 st σ => dn_iconst eL_law dL_law_676 kc_iconst_2,
  fun l0 l1 l2 l3 x y st σ => dn_iadd eL_law dL_law_677,
  fun l0 l1 l2 l3 q i st σ => dn_iaload eL_law dL_law_678,
  fun l0 l1 l2 l3 a0 a1 b0 q σ => rL_law_679 l0 l1 l2 l3 a0 a1 b0 q σ,
  fun l0 l1 l2 l3 x y st σ => dn_lcmp eL_law dL_law_682,
  fun l0 l1 l2 l3 x st σ => dn_if_eq eL_law dL_law_683 (by decide),
  fun l0 l1 l2 l3 st σ => dn_iconst eL_law dL_law_686 kc_iconst_0,
  fun l0 l1 l2 l3 v σ => dn_zreturn eL_law dL_law_687 rfl,
  fun l0 l2 l3 x st σ => dn_aload_n eL_law dL_law_688 rfl,
  fun l1 l2 l3 x st σ => dn_aload_n eL_law dL_law_689 rfl,
  fun l0 l1 l2 x st σ => dn_iload_n eL_law dL_law_690 rfl,
  fun l0 l1 l2 l3 st σ => dn_iconst eL_law dL_law_691 kc_iconst_1,
  fun l0 l1 l2 l3 x y st σ => dn_iadd eL_law dL_law_692,
  fun l0 l1 l2 l3 q i st σ => dn_iaload eL_law dL_law_693,
  fun l0 l1 l2 l3 a0 q σ => rL_law_694 l0 l1 l2 l3 a0 q σ,
  fun l0 l1 l3 x st σ => dn_aload_n eL_law dL_law_697 rfl,
  fun l1 l2 l3 x st σ => dn_aload_n eL_law dL_law_698 rfl,
  fun l0 l1 l2 x st σ => dn_iload_n eL_law dL_law_699 rfl,
  fun l0 l1 l2 l3 st σ => dn_iconst eL_law dL_law_700 kc_iconst_1,
  fun l0 l1 l2 l3 x y st σ => dn_iadd eL_law dL_law_701,
  fun l0 l1 l2 l3 q i st σ => dn_iaload eL_law dL_law_702,
  fun l0 l1 l2 l3 a0 b0 q σ => rL_law_703 l0 l1 l2 l3 a0 b0 q σ,
  fun l0 l1 l2 l3 x y st σ => dn_icmp_eq eL_law dL_law_706 (by decide),
  fun l0 l1 l2 l3 st σ => dn_iconst eL_law dL_law_709 kc_iconst_0,
  fun l0 l1 l2 l3 v σ => dn_zreturn eL_law dL_law_710 rfl,
  fun l0 l2 l3 x st σ => dn_aload_n eL_law dL_law_711 rfl,
  fun l1 l2 l3 x st σ => dn_aload_n eL_law dL_law_712 rfl,
  fun l0 l1 l2 x st σ => dn_iload_n eL_law dL_law_713 rfl,
  fun l0 l1 l2 l3 st σ => dn_iconst eL_law dL_law_714 kc_iconst_1⟩
set_option maxRecDepth 20000 in
theorem SL_law_11 : (∀ (l0 l1 l2 l3 : Option Value) (x y : Int32) (st : List Value) (σ : dS), den mL_law 715 [l0, l1, l2, l3] (.int y :: .int x :: st) σ = den mL_law 716 [l0, l1, l2, l3] (.int (x + y) :: st) σ) ∧
  (∀ (l0 l1 l2 l3 : Option Value) (q : Nat) (i : Int32) (st : List Value) (σ : dS), den mL_law 716 [l0, l1, l2, l3] (.int i :: .ref q :: st) σ = if q ≤ dN then (dald σ q 0 i).bind (fun v => den mL_law 717 [l0, l1, l2, l3] (.int v :: st) σ) else none) ∧
  (∀ (l0 l1 l2 l3 : Option Value) (a0 : Int32) (q : Nat) (σ : dS), den mL_law 717 [l0, l1, l2, l3] [.int a0, .ref q] σ = if disO σ q 5 = true then ((dcall mX6_out [.ref q, .int a0] σ).bind fun r => den mL_law 720 [l0, l1, l2, l3] (r.1.toList ++ []) r.2) else none) ∧
  (∀ (l0 l1 l3 : Option Value) (x : Nat) (st : List Value) (σ : dS), den mL_law 720 [l0, l1, some (.ref x), l3] st σ = den mL_law 721 [l0, l1, some (.ref x), l3] (.ref x :: st) σ) ∧
  (∀ (l1 l2 l3 : Option Value) (x : Nat) (st : List Value) (σ : dS), den mL_law 721 [some (.ref x), l1, l2, l3] st σ = den mL_law 722 [some (.ref x), l1, l2, l3] (.ref x :: st) σ) ∧
  (∀ (l0 l1 l2 : Option Value) (x : Int32) (st : List Value) (σ : dS), den mL_law 722 [l0, l1, l2, some (.int x)] st σ = den mL_law 723 [l0, l1, l2, some (.int x)] (.int x :: st) σ) ∧
  (∀ (l0 l1 l2 l3 : Option Value) (st : List Value) (σ : dS), den mL_law 723 [l0, l1, l2, l3] st σ = den mL_law 724 [l0, l1, l2, l3] (.int (nI 1) :: st) σ) ∧
  (∀ (l0 l1 l2 l3 : Option Value) (x y : Int32) (st : List Value) (σ : dS), den mL_law 724 [l0, l1, l2, l3] (.int y :: .int x :: st) σ = den mL_law 725 [l0, l1, l2, l3] (.int (x + y) :: st) σ) ∧
  (∀ (l0 l1 l2 l3 : Option Value) (q : Nat) (i : Int32) (st : List Value) (σ : dS), den mL_law 725 [l0, l1, l2, l3] (.int i :: .ref q :: st) σ = if q ≤ dN then (dald σ q 0 i).bind (fun v => den mL_law 726 [l0, l1, l2, l3] (.int v :: st) σ) else none) ∧
  (∀ (l0 l1 l2 l3 : Option Value) (a0 : Int32) (b0 : Int32) (q : Nat) (σ : dS), den mL_law 726 [l0, l1, l2, l3] [.int a0, .ref q, .int b0] σ = if disO σ q 6 = true then ((dcall mX7_out [.ref q, .int a0] σ).bind fun r => den mL_law 729 [l0, l1, l2, l3] (r.1.toList ++ [.int b0]) r.2) else none) ∧
  (∀ (l0 l1 l2 l3 : Option Value) (x y : Int32) (st : List Value) (σ : dS), den mL_law 729 [l0, l1, l2, l3] (.int y :: .int x :: st) σ = if x = y then den mL_law 1057 [l0, l1, l2, l3] st σ else den mL_law 732 [l0, l1, l2, l3] st σ) ∧
  (∀ (l0 l1 l2 l3 : Option Value) (st : List Value) (σ : dS), den mL_law 732 [l0, l1, l2, l3] st σ = den mL_law 733 [l0, l1, l2, l3] (.int (nI 0) :: st) σ) ∧
  (∀ (l0 l1 l2 l3 : Option Value) (v : Int32) (σ : dS), den mL_law 733 [l0, l1, l2, l3] [.int v] σ = if v = 0 ∨ v = 1 then some (some (.int v), σ) else none) ∧
  (∀ (l0 l2 l3 : Option Value) (x : Nat) (st : List Value) (σ : dS), den mL_law 734 [l0, some (.ref x), l2, l3] st σ = den mL_law 735 [l0, some (.ref x), l2, l3] (.ref x :: st) σ) ∧
  (∀ (l0 l1 l2 l3 : Option Value) (q : Nat) (σ : dS), den mL_law 735 [l0, l1, l2, l3] [.ref q] σ = if disO σ q 5 = true then ((dcall mX6_sweep [.ref q] σ).bind fun r => den mL_law 738 [l0, l1, l2, l3] (r.1.toList ++ []) r.2) else none) ∧
  (∀ (l0 l1 l3 : Option Value) (x : Nat) (st : List Value) (σ : dS), den mL_law 738 [l0, l1, some (.ref x), l3] st σ = den mL_law 739 [l0, l1, some (.ref x), l3] (.ref x :: st) σ) ∧
  (∀ (l0 l1 l2 l3 : Option Value) (b0 : Int32) (q : Nat) (σ : dS), den mL_law 739 [l0, l1, l2, l3] [.ref q, .int b0] σ = if disO σ q 6 = true then ((dcall mX7_sweep [.ref q] σ).bind fun r => den mL_law 742 [l0, l1, l2, l3] (r.1.toList ++ [.int b0]) r.2) else none) ∧
  (∀ (l0 l1 l2 l3 : Option Value) (x y : Int32) (st : List Value) (σ : dS), den mL_law 742 [l0, l1, l2, l3] (.int y :: .int x :: st) σ = if x = y then den mL_law 1057 [l0, l1, l2, l3] st σ else den mL_law 745 [l0, l1, l2, l3] st σ) ∧
  (∀ (l0 l1 l2 l3 : Option Value) (st : List Value) (σ : dS), den mL_law 745 [l0, l1, l2, l3] st σ = den mL_law 746 [l0, l1, l2, l3] (.int (nI 0) :: st) σ) ∧
  (∀ (l0 l1 l2 l3 : Option Value) (v : Int32) (σ : dS), den mL_law 746 [l0, l1, l2, l3] [.int v] σ = if v = 0 ∨ v = 1 then some (some (.int v), σ) else none) ∧
  (∀ (l0 l2 l3 : Option Value) (x : Nat) (st : List Value) (σ : dS), den mL_law 747 [l0, some (.ref x), l2, l3] st σ = den mL_law 748 [l0, some (.ref x), l2, l3] (.ref x :: st) σ) ∧
  (∀ (l0 l1 l2 l3 : Option Value) (q : Nat) (σ : dS), den mL_law 748 [l0, l1, l2, l3] [.ref q] σ = if disO σ q 5 = true then ((dcall mX6_merge [.ref q] σ).bind fun r => den mL_law 751 [l0, l1, l2, l3] (r.1.toList ++ []) r.2) else none) ∧
  (∀ (l0 l1 l3 : Option Value) (x : Nat) (st : List Value) (σ : dS), den mL_law 751 [l0, l1, some (.ref x), l3] st σ = den mL_law 752 [l0, l1, some (.ref x), l3] (.ref x :: st) σ) ∧
  (∀ (l0 l1 l2 l3 : Option Value) (b0 : Int32) (q : Nat) (σ : dS), den mL_law 752 [l0, l1, l2, l3] [.ref q, .int b0] σ = if disO σ q 6 = true then ((dcall mX7_merge [.ref q] σ).bind fun r => den mL_law 755 [l0, l1, l2, l3] (r.1.toList ++ [.int b0]) r.2) else none) ∧
  (∀ (l0 l1 l2 l3 : Option Value) (x y : Int32) (st : List Value) (σ : dS), den mL_law 755 [l0, l1, l2, l3] (.int y :: .int x :: st) σ = if x = y then den mL_law 1057 [l0, l1, l2, l3] st σ else den mL_law 758 [l0, l1, l2, l3] st σ) ∧
  (∀ (l0 l1 l2 l3 : Option Value) (st : List Value) (σ : dS), den mL_law 758 [l0, l1, l2, l3] st σ = den mL_law 759 [l0, l1, l2, l3] (.int (nI 0) :: st) σ) ∧
  (∀ (l0 l1 l2 l3 : Option Value) (v : Int32) (σ : dS), den mL_law 759 [l0, l1, l2, l3] [.int v] σ = if v = 0 ∨ v = 1 then some (some (.int v), σ) else none) ∧
  (∀ (l0 l2 l3 : Option Value) (x : Nat) (st : List Value) (σ : dS), den mL_law 760 [l0, some (.ref x), l2, l3] st σ = den mL_law 761 [l0, some (.ref x), l2, l3] (.ref x :: st) σ) ∧
  (∀ (l1 l2 l3 : Option Value) (x : Nat) (st : List Value) (σ : dS), den mL_law 761 [some (.ref x), l1, l2, l3] st σ = den mL_law 762 [some (.ref x), l1, l2, l3] (.ref x :: st) σ) ∧
  (∀ (l0 l1 l2 : Option Value) (x : Int32) (st : List Value) (σ : dS), den mL_law 762 [l0, l1, l2, some (.int x)] st σ = den mL_law 763 [l0, l1, l2, some (.int x)] (.int x :: st) σ) ∧
  (∀ (l0 l1 l2 l3 : Option Value) (st : List Value) (σ : dS), den mL_law 763 [l0, l1, l2, l3] st σ = den mL_law 764 [l0, l1, l2, l3] (.int (nI 1) :: st) σ) ∧
  (∀ (l0 l1 l2 l3 : Option Value) (x y : Int32) (st : List Value) (σ : dS), den mL_law 764 [l0, l1, l2, l3] (.int y :: .int x :: st) σ = den mL_law 765 [l0, l1, l2, l3] (.int (x + y) :: st) σ) ∧
  (∀ (l0 l1 l2 l3 : Option Value) (q : Nat) (i : Int32) (st : List Value) (σ : dS), den mL_law 765 [l0, l1, l2, l3] (.int i :: .ref q :: st) σ = if q ≤ dN then (dald σ q 0 i).bind (fun v => den mL_law 766 [l0, l1, l2, l3] (.int v :: st) σ) else none) ∧
  (∀ (l1 l2 l3 : Option Value) (x : Nat) (st : List Value) (σ : dS), den mL_law 766 [some (.ref x), l1, l2, l3] st σ = den mL_law 767 [some (.ref x), l1, l2, l3] (.ref x :: st) σ) ∧
  (∀ (l0 l1 l2 : Option Value) (x : Int32) (st : List Value) (σ : dS), den mL_law 767 [l0, l1, l2, some (.int x)] st σ = den mL_law 768 [l0, l1, l2, some (.int x)] (.int x :: st) σ) ∧
  (∀ (l0 l1 l2 l3 : Option Value) (st : List Value) (σ : dS), den mL_law 768 [l0, l1, l2, l3] st σ = den mL_law 769 [l0, l1, l2, l3] (.int (nI 2) :: st) σ) ∧
  (∀ (l0 l1 l2 l3 : Option Value) (x y : Int32) (st : List Value) (σ : dS), den mL_law 769 [l0, l1, l2, l3] (.int y :: .int x :: st) σ = den mL_law 770 [l0, l1, l2, l3] (.int (x + y) :: st) σ) ∧
  (∀ (l0 l1 l2 l3 : Option Value) (q : Nat) (i : Int32) (st : List Value) (σ : dS), den mL_law 770 [l0, l1, l2, l3] (.int i :: .ref q :: st) σ = if q ≤ dN then (dald σ q 0 i).bind (fun v => den mL_law 771 [l0, l1, l2, l3] (.int v :: st) σ) else none) ∧
  (∀ (l1 l2 l3 : Option Value) (x : Nat) (st : List Value) (σ : dS), den mL_law 771 [some (.ref x), l1, l2, l3] st σ = den mL_law 772 [some (.ref x), l1, l2, l3] (.ref x :: st) σ) ∧
  (∀ (l0 l1 l2 : Option Value) (x : Int32) (st : List Value) (σ : dS), den mL_law 772 [l0, l1, l2, some (.int x)] st σ = den mL_law 773 [l0, l1, l2, some (.int x)] (.int x :: st) σ) :=
  ⟨fun l0 l1 l2 l3 x y st σ => dn_iadd eL_law dL_law_715,
  fun l0 l1 l2 l3 q i st σ => dn_iaload eL_law dL_law_716,
  fun l0 l1 l2 l3 a0 q σ => rL_law_717 l0 l1 l2 l3 a0 q σ,
  fun l0 l1 l3 x st σ => dn_aload_n eL_law dL_law_720 rfl,
  fun l1 l2 l3 x st σ => dn_aload_n eL_law dL_law_721 rfl,
  fun l0 l1 l2 x st σ => dn_iload_n eL_law dL_law_722 rfl,
  fun l0 l1 l2 l3 st σ => dn_iconst eL_law dL_law_723 kc_iconst_1,
  fun l0 l1 l2 l3 x y st σ => dn_iadd eL_law dL_law_724,
  fun l0 l1 l2 l3 q i st σ => dn_iaload eL_law dL_law_725,
  fun l0 l1 l2 l3 a0 b0 q σ => rL_law_726 l0 l1 l2 l3 a0 b0 q σ,
  fun l0 l1 l2 l3 x y st σ => dn_icmp_eq eL_law dL_law_729 (by decide),
  fun l0 l1 l2 l3 st σ => dn_iconst eL_law dL_law_732 kc_iconst_0,
  fun l0 l1 l2 l3 v σ => dn_zreturn eL_law dL_law_733 rfl,
  fun l0 l2 l3 x st σ => dn_aload_n eL_law dL_law_734 rfl,
  fun l0 l1 l2 l3 q σ => rL_law_735 l0 l1 l2 l3 q σ,
  fun l0 l1 l3 x st σ => dn_aload_n eL_law dL_law_738 rfl,
  fun l0 l1 l2 l3 b0 q σ => rL_law_739 l0 l1 l2 l3 b0 q σ,
  fun l0 l1 l2 l3 x y st σ => dn_icmp_eq eL_law dL_law_742 (by decide),
  fun l0 l1 l2 l3 st σ => dn_iconst eL_law dL_law_745 kc_iconst_0,
  fun l0 l1 l2 l3 v σ => dn_zreturn eL_law dL_law_746 rfl,
  fun l0 l2 l3 x st σ => dn_aload_n eL_law dL_law_747 rfl,
  fun l0 l1 l2 l3 q σ => rL_law_748 l0 l1 l2 l3 q σ,
  fun l0 l1 l3 x st σ => dn_aload_n eL_law dL_law_751 rfl,
  fun l0 l1 l2 l3 b0 q σ => rL_law_752 l0 l1 l2 l3 b0 q σ,
  fun l0 l1 l2 l3 x y st σ => dn_icmp_eq eL_law dL_law_755 (by decide),
  fun l0 l1 l2 l3 st σ => dn_iconst eL_law dL_law_758 kc_iconst_0,
  fun l0 l1 l2 l3 v σ => dn_zreturn eL_law dL_law_759 rfl,
  fun l0 l2 l3 x st σ => dn_aload_n eL_law dL_law_760 rfl,
  fun l1 l2 l3 x st σ => dn_aload_n eL_law dL_law_761 rfl,
  fun l0 l1 l2 x st σ => dn_iload_n eL_law dL_law_762 rfl,
  fun l0 l1 l2 l3 st σ => dn_iconst eL_law dL_law_763 kc_iconst_1,
  fun l0 l1 l2 l3 x y st σ => dn_iadd eL_law dL_law_764,
  fun l0 l1 l2 l3 q i st σ => dn_iaload eL_law dL_law_765,
  fun l1 l2 l3 x st σ => dn_aload_n eL_law dL_law_766 rfl,
  fun l0 l1 l2 x st σ => dn_iload_n eL_law dL_law_767 rfl,
  fun l0 l1 l2 l3 st σ => dn_iconst eL_law dL_law_768 kc_iconst_2,
  fun l0 l1 l2 l3 x y st σ => dn_iadd eL_law dL_law_769,
  fun l0 l1 l2 l3 q i st σ => dn_iaload eL_law dL_law_770,
  fun l1 l2 l3 x st σ => dn_aload_n eL_law dL_law_771 rfl,
  fun l0 l1 l2 x st σ => dn_iload_n eL_law dL_law_772 rfl⟩
set_option maxRecDepth 20000 in
theorem SL_law_12 : (∀ (l0 l1 l2 l3 : Option Value) (st : List Value) (σ : dS), den mL_law 773 [l0, l1, l2, l3] st σ = den mL_law 774 [l0, l1, l2, l3] (.int (nI 3) :: st) σ) ∧
  (∀ (l0 l1 l2 l3 : Option Value) (x y : Int32) (st : List Value) (σ : dS), den mL_law 774 [l0, l1, l2, l3] (.int y :: .int x :: st) σ = den mL_law 775 [l0, l1, l2, l3] (.int (x + y) :: st) σ) ∧
  (∀ (l0 l1 l2 l3 : Option Value) (q : Nat) (i : Int32) (st : List Value) (σ : dS), den mL_law 775 [l0, l1, l2, l3] (.int i :: .ref q :: st) σ = if q ≤ dN then (dald σ q 0 i).bind (fun v => den mL_law 776 [l0, l1, l2, l3] (.int v :: st) σ) else none) ∧
  (∀ (l0 l1 l2 l3 : Option Value) (a0 : Int32) (a1 : Int32) (a2 : Int32) (q : Nat) (σ : dS), den mL_law 776 [l0, l1, l2, l3] [.int a2, .int a1, .int a0, .ref q] σ = if disO σ q 5 = true then ((dcall mX6_set [.ref q, .int a0, .int a1, .int a2] σ).bind fun r => den mL_law 779 [l0, l1, l2, l3] (r.1.toList ++ []) r.2) else none) ∧
  (∀ (l0 l1 l3 : Option Value) (x : Nat) (st : List Value) (σ : dS), den mL_law 779 [l0, l1, some (.ref x), l3] st σ = den mL_law 780 [l0, l1, some (.ref x), l3] (.ref x :: st) σ) ∧
  (∀ (l1 l2 l3 : Option Value) (x : Nat) (st : List Value) (σ : dS), den mL_law 780 [some (.ref x), l1, l2, l3] st σ = den mL_law 781 [some (.ref x), l1, l2, l3] (.ref x :: st) σ) ∧
  (∀ (l0 l1 l2 : Option Value) (x : Int32) (st : List Value) (σ : dS), den mL_law 781 [l0, l1, l2, some (.int x)] st σ = den mL_law 782 [l0, l1, l2, some (.int x)] (.int x :: st) σ) ∧
  (∀ (l0 l1 l2 l3 : Option Value) (st : List Value) (σ : dS), den mL_law 782 [l0, l1, l2, l3] st σ = den mL_law 783 [l0, l1, l2, l3] (.int (nI 1) :: st) σ) ∧
  (∀ (l0 l1 l2 l3 : Option Value) (x y : Int32) (st : List Value) (σ : dS), den mL_law 783 [l0, l1, l2, l3] (.int y :: .int x :: st) σ = den mL_law 784 [l0, l1, l2, l3] (.int (x + y) :: st) σ) ∧
  (∀ (l0 l1 l2 l3 : Option Value) (q : Nat) (i : Int32) (st : List Value) (σ : dS), den mL_law 784 [l0, l1, l2, l3] (.int i :: .ref q :: st) σ = if q ≤ dN then (dald σ q 0 i).bind (fun v => den mL_law 785 [l0, l1, l2, l3] (.int v :: st) σ) else none) ∧
  (∀ (l1 l2 l3 : Option Value) (x : Nat) (st : List Value) (σ : dS), den mL_law 785 [some (.ref x), l1, l2, l3] st σ = den mL_law 786 [some (.ref x), l1, l2, l3] (.ref x :: st) σ) ∧
  (∀ (l0 l1 l2 : Option Value) (x : Int32) (st : List Value) (σ : dS), den mL_law 786 [l0, l1, l2, some (.int x)] st σ = den mL_law 787 [l0, l1, l2, some (.int x)] (.int x :: st) σ) ∧
  (∀ (l0 l1 l2 l3 : Option Value) (st : List Value) (σ : dS), den mL_law 787 [l0, l1, l2, l3] st σ = den mL_law 788 [l0, l1, l2, l3] (.int (nI 2) :: st) σ) ∧
  (∀ (l0 l1 l2 l3 : Option Value) (x y : Int32) (st : List Value) (σ : dS), den mL_law 788 [l0, l1, l2, l3] (.int y :: .int x :: st) σ = den mL_law 789 [l0, l1, l2, l3] (.int (x + y) :: st) σ) ∧
  (∀ (l0 l1 l2 l3 : Option Value) (q : Nat) (i : Int32) (st : List Value) (σ : dS), den mL_law 789 [l0, l1, l2, l3] (.int i :: .ref q :: st) σ = if q ≤ dN then (dald σ q 0 i).bind (fun v => den mL_law 790 [l0, l1, l2, l3] (.int v :: st) σ) else none) ∧
  (∀ (l1 l2 l3 : Option Value) (x : Nat) (st : List Value) (σ : dS), den mL_law 790 [some (.ref x), l1, l2, l3] st σ = den mL_law 791 [some (.ref x), l1, l2, l3] (.ref x :: st) σ) ∧
  (∀ (l0 l1 l2 : Option Value) (x : Int32) (st : List Value) (σ : dS), den mL_law 791 [l0, l1, l2, some (.int x)] st σ = den mL_law 792 [l0, l1, l2, some (.int x)] (.int x :: st) σ) ∧
  (∀ (l0 l1 l2 l3 : Option Value) (st : List Value) (σ : dS), den mL_law 792 [l0, l1, l2, l3] st σ = den mL_law 793 [l0, l1, l2, l3] (.int (nI 3) :: st) σ) ∧
  (∀ (l0 l1 l2 l3 : Option Value) (x y : Int32) (st : List Value) (σ : dS), den mL_law 793 [l0, l1, l2, l3] (.int y :: .int x :: st) σ = den mL_law 794 [l0, l1, l2, l3] (.int (x + y) :: st) σ) ∧
  (∀ (l0 l1 l2 l3 : Option Value) (q : Nat) (i : Int32) (st : List Value) (σ : dS), den mL_law 794 [l0, l1, l2, l3] (.int i :: .ref q :: st) σ = if q ≤ dN then (dald σ q 0 i).bind (fun v => den mL_law 795 [l0, l1, l2, l3] (.int v :: st) σ) else none) ∧
  (∀ (l0 l1 l2 l3 : Option Value) (a0 : Int32) (a1 : Int32) (a2 : Int32) (b0 : Int32) (q : Nat) (σ : dS), den mL_law 795 [l0, l1, l2, l3] [.int a2, .int a1, .int a0, .ref q, .int b0] σ = if disO σ q 6 = true then ((dcall mX7_set [.ref q, .int a0, .int a1, .int a2] σ).bind fun r => den mL_law 798 [l0, l1, l2, l3] (r.1.toList ++ [.int b0]) r.2) else none) ∧
  (∀ (l0 l1 l2 l3 : Option Value) (x y : Int32) (st : List Value) (σ : dS), den mL_law 798 [l0, l1, l2, l3] (.int y :: .int x :: st) σ = if x = y then den mL_law 1057 [l0, l1, l2, l3] st σ else den mL_law 801 [l0, l1, l2, l3] st σ) ∧
  (∀ (l0 l1 l2 l3 : Option Value) (st : List Value) (σ : dS), den mL_law 801 [l0, l1, l2, l3] st σ = den mL_law 802 [l0, l1, l2, l3] (.int (nI 0) :: st) σ) ∧
  (∀ (l0 l1 l2 l3 : Option Value) (v : Int32) (σ : dS), den mL_law 802 [l0, l1, l2, l3] [.int v] σ = if v = 0 ∨ v = 1 then some (some (.int v), σ) else none) ∧
  (∀ (l0 l2 l3 : Option Value) (x : Nat) (st : List Value) (σ : dS), den mL_law 803 [l0, some (.ref x), l2, l3] st σ = den mL_law 804 [l0, some (.ref x), l2, l3] (.ref x :: st) σ) ∧
  (∀ (l1 l2 l3 : Option Value) (x : Nat) (st : List Value) (σ : dS), den mL_law 804 [some (.ref x), l1, l2, l3] st σ = den mL_law 805 [some (.ref x), l1, l2, l3] (.ref x :: st) σ) ∧
  (∀ (l0 l1 l2 : Option Value) (x : Int32) (st : List Value) (σ : dS), den mL_law 805 [l0, l1, l2, some (.int x)] st σ = den mL_law 806 [l0, l1, l2, some (.int x)] (.int x :: st) σ) ∧
  (∀ (l0 l1 l2 l3 : Option Value) (st : List Value) (σ : dS), den mL_law 806 [l0, l1, l2, l3] st σ = den mL_law 807 [l0, l1, l2, l3] (.int (nI 1) :: st) σ) ∧
  (∀ (l0 l1 l2 l3 : Option Value) (x y : Int32) (st : List Value) (σ : dS), den mL_law 807 [l0, l1, l2, l3] (.int y :: .int x :: st) σ = den mL_law 808 [l0, l1, l2, l3] (.int (x + y) :: st) σ) ∧
  (∀ (l0 l1 l2 l3 : Option Value) (q : Nat) (i : Int32) (st : List Value) (σ : dS), den mL_law 808 [l0, l1, l2, l3] (.int i :: .ref q :: st) σ = if q ≤ dN then (dald σ q 0 i).bind (fun v => den mL_law 809 [l0, l1, l2, l3] (.int v :: st) σ) else none) ∧
  (∀ (l1 l2 l3 : Option Value) (x : Nat) (st : List Value) (σ : dS), den mL_law 809 [some (.ref x), l1, l2, l3] st σ = den mL_law 810 [some (.ref x), l1, l2, l3] (.ref x :: st) σ) ∧
  (∀ (l0 l1 l2 : Option Value) (x : Int32) (st : List Value) (σ : dS), den mL_law 810 [l0, l1, l2, some (.int x)] st σ = den mL_law 811 [l0, l1, l2, some (.int x)] (.int x :: st) σ) ∧
  (∀ (l0 l1 l2 l3 : Option Value) (st : List Value) (σ : dS), den mL_law 811 [l0, l1, l2, l3] st σ = den mL_law 812 [l0, l1, l2, l3] (.int (nI 2) :: st) σ) ∧
  (∀ (l0 l1 l2 l3 : Option Value) (x y : Int32) (st : List Value) (σ : dS), den mL_law 812 [l0, l1, l2, l3] (.int y :: .int x :: st) σ = den mL_law 813 [l0, l1, l2, l3] (.int (x + y) :: st) σ) ∧
  (∀ (l0 l1 l2 l3 : Option Value) (q : Nat) (i : Int32) (st : List Value) (σ : dS), den mL_law 813 [l0, l1, l2, l3] (.int i :: .ref q :: st) σ = if q ≤ dN then (dald σ q 0 i).bind (fun v => den mL_law 814 [l0, l1, l2, l3] (.int v :: st) σ) else none) ∧
  (∀ (l0 l1 l2 l3 : Option Value) (a0 : Int32) (a1 : Int32) (q : Nat) (σ : dS), den mL_law 814 [l0, l1, l2, l3] [.int a1, .int a0, .ref q] σ = if disO σ q 5 = true then ((dcall mX6_turn [.ref q, .int a0, .int a1] σ).bind fun r => den mL_law 817 [l0, l1, l2, l3] (r.1.toList ++ []) r.2) else none) ∧
  (∀ (l0 l1 l3 : Option Value) (x : Nat) (st : List Value) (σ : dS), den mL_law 817 [l0, l1, some (.ref x), l3] st σ = den mL_law 818 [l0, l1, some (.ref x), l3] (.ref x :: st) σ) ∧
  (∀ (l1 l2 l3 : Option Value) (x : Nat) (st : List Value) (σ : dS), den mL_law 818 [some (.ref x), l1, l2, l3] st σ = den mL_law 819 [some (.ref x), l1, l2, l3] (.ref x :: st) σ) ∧
  (∀ (l0 l1 l2 : Option Value) (x : Int32) (st : List Value) (σ : dS), den mL_law 819 [l0, l1, l2, some (.int x)] st σ = den mL_law 820 [l0, l1, l2, some (.int x)] (.int x :: st) σ) ∧
  (∀ (l0 l1 l2 l3 : Option Value) (st : List Value) (σ : dS), den mL_law 820 [l0, l1, l2, l3] st σ = den mL_law 821 [l0, l1, l2, l3] (.int (nI 1) :: st) σ) :=
  ⟨fun l0 l1 l2 l3 st σ => dn_iconst eL_law dL_law_773 kc_iconst_3,
  fun l0 l1 l2 l3 x y st σ => dn_iadd eL_law dL_law_774,
  fun l0 l1 l2 l3 q i st σ => dn_iaload eL_law dL_law_775,
  fun l0 l1 l2 l3 a0 a1 a2 q σ => rL_law_776 l0 l1 l2 l3 a0 a1 a2 q σ,
  fun l0 l1 l3 x st σ => dn_aload_n eL_law dL_law_779 rfl,
  fun l1 l2 l3 x st σ => dn_aload_n eL_law dL_law_780 rfl,
  fun l0 l1 l2 x st σ => dn_iload_n eL_law dL_law_781 rfl,
  fun l0 l1 l2 l3 st σ => dn_iconst eL_law dL_law_782 kc_iconst_1,
  fun l0 l1 l2 l3 x y st σ => dn_iadd eL_law dL_law_783,
  fun l0 l1 l2 l3 q i st σ => dn_iaload eL_law dL_law_784,
  fun l1 l2 l3 x st σ => dn_aload_n eL_law dL_law_785 rfl,
  fun l0 l1 l2 x st σ => dn_iload_n eL_law dL_law_786 rfl,
  fun l0 l1 l2 l3 st σ => dn_iconst eL_law dL_law_787 kc_iconst_2,
  fun l0 l1 l2 l3 x y st σ => dn_iadd eL_law dL_law_788,
  fun l0 l1 l2 l3 q i st σ => dn_iaload eL_law dL_law_789,
  fun l1 l2 l3 x st σ => dn_aload_n eL_law dL_law_790 rfl,
  fun l0 l1 l2 x st σ => dn_iload_n eL_law dL_law_791 rfl,
  fun l0 l1 l2 l3 st σ => dn_iconst eL_law dL_law_792 kc_iconst_3,
  fun l0 l1 l2 l3 x y st σ => dn_iadd eL_law dL_law_793,
  fun l0 l1 l2 l3 q i st σ => dn_iaload eL_law dL_law_794,
  fun l0 l1 l2 l3 a0 a1 a2 b0 q σ => rL_law_795 l0 l1 l2 l3 a0 a1 a2 b0 q σ,
  fun l0 l1 l2 l3 x y st σ => dn_icmp_eq eL_law dL_law_798 (by decide),
  fun l0 l1 l2 l3 st σ => dn_iconst eL_law dL_law_801 kc_iconst_0,
  fun l0 l1 l2 l3 v σ => dn_zreturn eL_law dL_law_802 rfl,
  fun l0 l2 l3 x st σ => dn_aload_n eL_law dL_law_803 rfl,
  fun l1 l2 l3 x st σ => dn_aload_n eL_law dL_law_804 rfl,
  fun l0 l1 l2 x st σ => dn_iload_n eL_law dL_law_805 rfl,
  fun l0 l1 l2 l3 st σ => dn_iconst eL_law dL_law_806 kc_iconst_1,
  fun l0 l1 l2 l3 x y st σ => dn_iadd eL_law dL_law_807,
  fun l0 l1 l2 l3 q i st σ => dn_iaload eL_law dL_law_808,
  fun l1 l2 l3 x st σ => dn_aload_n eL_law dL_law_809 rfl,
  fun l0 l1 l2 x st σ => dn_iload_n eL_law dL_law_810 rfl,
  fun l0 l1 l2 l3 st σ => dn_iconst eL_law dL_law_811 kc_iconst_2,
  fun l0 l1 l2 l3 x y st σ => dn_iadd eL_law dL_law_812,
  fun l0 l1 l2 l3 q i st σ => dn_iaload eL_law dL_law_813,
  fun l0 l1 l2 l3 a0 a1 q σ => rL_law_814 l0 l1 l2 l3 a0 a1 q σ,
  fun l0 l1 l3 x st σ => dn_aload_n eL_law dL_law_817 rfl,
  fun l1 l2 l3 x st σ => dn_aload_n eL_law dL_law_818 rfl,
  fun l0 l1 l2 x st σ => dn_iload_n eL_law dL_law_819 rfl,
  fun l0 l1 l2 l3 st σ => dn_iconst eL_law dL_law_820 kc_iconst_1⟩
set_option maxRecDepth 20000 in
theorem SL_law_13 : (∀ (l0 l1 l2 l3 : Option Value) (x y : Int32) (st : List Value) (σ : dS), den mL_law 821 [l0, l1, l2, l3] (.int y :: .int x :: st) σ = den mL_law 822 [l0, l1, l2, l3] (.int (x + y) :: st) σ) ∧
  (∀ (l0 l1 l2 l3 : Option Value) (q : Nat) (i : Int32) (st : List Value) (σ : dS), den mL_law 822 [l0, l1, l2, l3] (.int i :: .ref q :: st) σ = if q ≤ dN then (dald σ q 0 i).bind (fun v => den mL_law 823 [l0, l1, l2, l3] (.int v :: st) σ) else none) ∧
  (∀ (l1 l2 l3 : Option Value) (x : Nat) (st : List Value) (σ : dS), den mL_law 823 [some (.ref x), l1, l2, l3] st σ = den mL_law 824 [some (.ref x), l1, l2, l3] (.ref x :: st) σ) ∧
  (∀ (l0 l1 l2 : Option Value) (x : Int32) (st : List Value) (σ : dS), den mL_law 824 [l0, l1, l2, some (.int x)] st σ = den mL_law 825 [l0, l1, l2, some (.int x)] (.int x :: st) σ) ∧
  (∀ (l0 l1 l2 l3 : Option Value) (st : List Value) (σ : dS), den mL_law 825 [l0, l1, l2, l3] st σ = den mL_law 826 [l0, l1, l2, l3] (.int (nI 2) :: st) σ) ∧
  (∀ (l0 l1 l2 l3 : Option Value) (x y : Int32) (st : List Value) (σ : dS), den mL_law 826 [l0, l1, l2, l3] (.int y :: .int x :: st) σ = den mL_law 827 [l0, l1, l2, l3] (.int (x + y) :: st) σ) ∧
  (∀ (l0 l1 l2 l3 : Option Value) (q : Nat) (i : Int32) (st : List Value) (σ : dS), den mL_law 827 [l0, l1, l2, l3] (.int i :: .ref q :: st) σ = if q ≤ dN then (dald σ q 0 i).bind (fun v => den mL_law 828 [l0, l1, l2, l3] (.int v :: st) σ) else none) ∧
  (∀ (l0 l1 l2 l3 : Option Value) (a0 : Int32) (a1 : Int32) (b0 : Int32) (q : Nat) (σ : dS), den mL_law 828 [l0, l1, l2, l3] [.int a1, .int a0, .ref q, .int b0] σ = if disO σ q 6 = true then ((dcall mX7_turn [.ref q, .int a0, .int a1] σ).bind fun r => den mL_law 831 [l0, l1, l2, l3] (r.1.toList ++ [.int b0]) r.2) else none) ∧
  (∀ (l0 l1 l2 l3 : Option Value) (x y : Int32) (st : List Value) (σ : dS), den mL_law 831 [l0, l1, l2, l3] (.int y :: .int x :: st) σ = if x = y then den mL_law 1057 [l0, l1, l2, l3] st σ else den mL_law 834 [l0, l1, l2, l3] st σ) ∧
  (∀ (l0 l1 l2 l3 : Option Value) (st : List Value) (σ : dS), den mL_law 834 [l0, l1, l2, l3] st σ = den mL_law 835 [l0, l1, l2, l3] (.int (nI 0) :: st) σ) ∧
  (∀ (l0 l1 l2 l3 : Option Value) (v : Int32) (σ : dS), den mL_law 835 [l0, l1, l2, l3] [.int v] σ = if v = 0 ∨ v = 1 then some (some (.int v), σ) else none) ∧
  (∀ (l0 l2 l3 : Option Value) (x : Nat) (st : List Value) (σ : dS), den mL_law 836 [l0, some (.ref x), l2, l3] st σ = den mL_law 837 [l0, some (.ref x), l2, l3] (.ref x :: st) σ) ∧
  (∀ (l1 l2 l3 : Option Value) (x : Nat) (st : List Value) (σ : dS), den mL_law 837 [some (.ref x), l1, l2, l3] st σ = den mL_law 838 [some (.ref x), l1, l2, l3] (.ref x :: st) σ) ∧
  (∀ (l0 l1 l2 : Option Value) (x : Int32) (st : List Value) (σ : dS), den mL_law 838 [l0, l1, l2, some (.int x)] st σ = den mL_law 839 [l0, l1, l2, some (.int x)] (.int x :: st) σ) ∧
  (∀ (l0 l1 l2 l3 : Option Value) (st : List Value) (σ : dS), den mL_law 839 [l0, l1, l2, l3] st σ = den mL_law 840 [l0, l1, l2, l3] (.int (nI 1) :: st) σ) ∧
  (∀ (l0 l1 l2 l3 : Option Value) (x y : Int32) (st : List Value) (σ : dS), den mL_law 840 [l0, l1, l2, l3] (.int y :: .int x :: st) σ = den mL_law 841 [l0, l1, l2, l3] (.int (x + y) :: st) σ) ∧
  (∀ (l0 l1 l2 l3 : Option Value) (q : Nat) (i : Int32) (st : List Value) (σ : dS), den mL_law 841 [l0, l1, l2, l3] (.int i :: .ref q :: st) σ = if q ≤ dN then (dald σ q 0 i).bind (fun v => den mL_law 842 [l0, l1, l2, l3] (.int v :: st) σ) else none) ∧
  (∀ (l0 l1 l2 l3 : Option Value) (a0 : Int32) (q : Nat) (σ : dS), den mL_law 842 [l0, l1, l2, l3] [.int a0, .ref q] σ = if disO σ q 5 = true then ((dcall mX6_keep [.ref q, .int a0] σ).bind fun r => den mL_law 845 [l0, l1, l2, l3] (r.1.toList ++ []) r.2) else none) ∧
  (∀ (l0 l1 l3 : Option Value) (x : Nat) (st : List Value) (σ : dS), den mL_law 845 [l0, l1, some (.ref x), l3] st σ = den mL_law 846 [l0, l1, some (.ref x), l3] (.ref x :: st) σ) ∧
  (∀ (l1 l2 l3 : Option Value) (x : Nat) (st : List Value) (σ : dS), den mL_law 846 [some (.ref x), l1, l2, l3] st σ = den mL_law 847 [some (.ref x), l1, l2, l3] (.ref x :: st) σ) ∧
  (∀ (l0 l1 l2 : Option Value) (x : Int32) (st : List Value) (σ : dS), den mL_law 847 [l0, l1, l2, some (.int x)] st σ = den mL_law 848 [l0, l1, l2, some (.int x)] (.int x :: st) σ) ∧
  (∀ (l0 l1 l2 l3 : Option Value) (st : List Value) (σ : dS), den mL_law 848 [l0, l1, l2, l3] st σ = den mL_law 849 [l0, l1, l2, l3] (.int (nI 1) :: st) σ) ∧
  (∀ (l0 l1 l2 l3 : Option Value) (x y : Int32) (st : List Value) (σ : dS), den mL_law 849 [l0, l1, l2, l3] (.int y :: .int x :: st) σ = den mL_law 850 [l0, l1, l2, l3] (.int (x + y) :: st) σ) ∧
  (∀ (l0 l1 l2 l3 : Option Value) (q : Nat) (i : Int32) (st : List Value) (σ : dS), den mL_law 850 [l0, l1, l2, l3] (.int i :: .ref q :: st) σ = if q ≤ dN then (dald σ q 0 i).bind (fun v => den mL_law 851 [l0, l1, l2, l3] (.int v :: st) σ) else none) ∧
  (∀ (l0 l1 l2 l3 : Option Value) (a0 : Int32) (b0 : Int32) (q : Nat) (σ : dS), den mL_law 851 [l0, l1, l2, l3] [.int a0, .ref q, .int b0] σ = if disO σ q 6 = true then ((dcall mX7_keep [.ref q, .int a0] σ).bind fun r => den mL_law 854 [l0, l1, l2, l3] (r.1.toList ++ [.int b0]) r.2) else none) ∧
  (∀ (l0 l1 l2 l3 : Option Value) (x y : Int32) (st : List Value) (σ : dS), den mL_law 854 [l0, l1, l2, l3] (.int y :: .int x :: st) σ = if x = y then den mL_law 1057 [l0, l1, l2, l3] st σ else den mL_law 857 [l0, l1, l2, l3] st σ) ∧
  (∀ (l0 l1 l2 l3 : Option Value) (st : List Value) (σ : dS), den mL_law 857 [l0, l1, l2, l3] st σ = den mL_law 858 [l0, l1, l2, l3] (.int (nI 0) :: st) σ) ∧
  (∀ (l0 l1 l2 l3 : Option Value) (v : Int32) (σ : dS), den mL_law 858 [l0, l1, l2, l3] [.int v] σ = if v = 0 ∨ v = 1 then some (some (.int v), σ) else none) ∧
  (∀ (l0 l2 l3 : Option Value) (x : Nat) (st : List Value) (σ : dS), den mL_law 859 [l0, some (.ref x), l2, l3] st σ = den mL_law 860 [l0, some (.ref x), l2, l3] (.ref x :: st) σ) ∧
  (∀ (l1 l2 l3 : Option Value) (x : Nat) (st : List Value) (σ : dS), den mL_law 860 [some (.ref x), l1, l2, l3] st σ = den mL_law 861 [some (.ref x), l1, l2, l3] (.ref x :: st) σ) ∧
  (∀ (l0 l1 l2 : Option Value) (x : Int32) (st : List Value) (σ : dS), den mL_law 861 [l0, l1, l2, some (.int x)] st σ = den mL_law 862 [l0, l1, l2, some (.int x)] (.int x :: st) σ) ∧
  (∀ (l0 l1 l2 l3 : Option Value) (st : List Value) (σ : dS), den mL_law 862 [l0, l1, l2, l3] st σ = den mL_law 863 [l0, l1, l2, l3] (.int (nI 1) :: st) σ) ∧
  (∀ (l0 l1 l2 l3 : Option Value) (x y : Int32) (st : List Value) (σ : dS), den mL_law 863 [l0, l1, l2, l3] (.int y :: .int x :: st) σ = den mL_law 864 [l0, l1, l2, l3] (.int (x + y) :: st) σ) ∧
  (∀ (l0 l1 l2 l3 : Option Value) (q : Nat) (i : Int32) (st : List Value) (σ : dS), den mL_law 864 [l0, l1, l2, l3] (.int i :: .ref q :: st) σ = if q ≤ dN then (dald σ q 0 i).bind (fun v => den mL_law 865 [l0, l1, l2, l3] (.int v :: st) σ) else none) ∧
  (∀ (l0 l1 l2 l3 : Option Value) (a0 : Int32) (q : Nat) (σ : dS), den mL_law 865 [l0, l1, l2, l3] [.int a0, .ref q] σ = if disO σ q 5 = true then ((dcall mX6_back [.ref q, .int a0] σ).bind fun r => den mL_law 868 [l0, l1, l2, l3] (r.1.toList ++ []) r.2) else none) ∧
  (∀ (l0 l1 l3 : Option Value) (x : Nat) (st : List Value) (σ : dS), den mL_law 868 [l0, l1, some (.ref x), l3] st σ = den mL_law 869 [l0, l1, some (.ref x), l3] (.ref x :: st) σ) ∧
  (∀ (l1 l2 l3 : Option Value) (x : Nat) (st : List Value) (σ : dS), den mL_law 869 [some (.ref x), l1, l2, l3] st σ = den mL_law 870 [some (.ref x), l1, l2, l3] (.ref x :: st) σ) ∧
  (∀ (l0 l1 l2 : Option Value) (x : Int32) (st : List Value) (σ : dS), den mL_law 870 [l0, l1, l2, some (.int x)] st σ = den mL_law 871 [l0, l1, l2, some (.int x)] (.int x :: st) σ) ∧
  (∀ (l0 l1 l2 l3 : Option Value) (st : List Value) (σ : dS), den mL_law 871 [l0, l1, l2, l3] st σ = den mL_law 872 [l0, l1, l2, l3] (.int (nI 1) :: st) σ) ∧
  (∀ (l0 l1 l2 l3 : Option Value) (x y : Int32) (st : List Value) (σ : dS), den mL_law 872 [l0, l1, l2, l3] (.int y :: .int x :: st) σ = den mL_law 873 [l0, l1, l2, l3] (.int (x + y) :: st) σ) :=
  ⟨fun l0 l1 l2 l3 x y st σ => dn_iadd eL_law dL_law_821,
  fun l0 l1 l2 l3 q i st σ => dn_iaload eL_law dL_law_822,
  fun l1 l2 l3 x st σ => dn_aload_n eL_law dL_law_823 rfl,
  fun l0 l1 l2 x st σ => dn_iload_n eL_law dL_law_824 rfl,
  fun l0 l1 l2 l3 st σ => dn_iconst eL_law dL_law_825 kc_iconst_2,
  fun l0 l1 l2 l3 x y st σ => dn_iadd eL_law dL_law_826,
  fun l0 l1 l2 l3 q i st σ => dn_iaload eL_law dL_law_827,
  fun l0 l1 l2 l3 a0 a1 b0 q σ => rL_law_828 l0 l1 l2 l3 a0 a1 b0 q σ,
  fun l0 l1 l2 l3 x y st σ => dn_icmp_eq eL_law dL_law_831 (by decide),
  fun l0 l1 l2 l3 st σ => dn_iconst eL_law dL_law_834 kc_iconst_0,
  fun l0 l1 l2 l3 v σ => dn_zreturn eL_law dL_law_835 rfl,
  fun l0 l2 l3 x st σ => dn_aload_n eL_law dL_law_836 rfl,
  fun l1 l2 l3 x st σ => dn_aload_n eL_law dL_law_837 rfl,
  fun l0 l1 l2 x st σ => dn_iload_n eL_law dL_law_838 rfl,
  fun l0 l1 l2 l3 st σ => dn_iconst eL_law dL_law_839 kc_iconst_1,
  fun l0 l1 l2 l3 x y st σ => dn_iadd eL_law dL_law_840,
  fun l0 l1 l2 l3 q i st σ => dn_iaload eL_law dL_law_841,
  fun l0 l1 l2 l3 a0 q σ => rL_law_842 l0 l1 l2 l3 a0 q σ,
  fun l0 l1 l3 x st σ => dn_aload_n eL_law dL_law_845 rfl,
  fun l1 l2 l3 x st σ => dn_aload_n eL_law dL_law_846 rfl,
  fun l0 l1 l2 x st σ => dn_iload_n eL_law dL_law_847 rfl,
  fun l0 l1 l2 l3 st σ => dn_iconst eL_law dL_law_848 kc_iconst_1,
  fun l0 l1 l2 l3 x y st σ => dn_iadd eL_law dL_law_849,
  fun l0 l1 l2 l3 q i st σ => dn_iaload eL_law dL_law_850,
  fun l0 l1 l2 l3 a0 b0 q σ => rL_law_851 l0 l1 l2 l3 a0 b0 q σ,
  fun l0 l1 l2 l3 x y st σ => dn_icmp_eq eL_law dL_law_854 (by decide),
  fun l0 l1 l2 l3 st σ => dn_iconst eL_law dL_law_857 kc_iconst_0,
  fun l0 l1 l2 l3 v σ => dn_zreturn eL_law dL_law_858 rfl,
  fun l0 l2 l3 x st σ => dn_aload_n eL_law dL_law_859 rfl,
  fun l1 l2 l3 x st σ => dn_aload_n eL_law dL_law_860 rfl,
  fun l0 l1 l2 x st σ => dn_iload_n eL_law dL_law_861 rfl,
  fun l0 l1 l2 l3 st σ => dn_iconst eL_law dL_law_862 kc_iconst_1,
  fun l0 l1 l2 l3 x y st σ => dn_iadd eL_law dL_law_863,
  fun l0 l1 l2 l3 q i st σ => dn_iaload eL_law dL_law_864,
  fun l0 l1 l2 l3 a0 q σ => rL_law_865 l0 l1 l2 l3 a0 q σ,
  fun l0 l1 l3 x st σ => dn_aload_n eL_law dL_law_868 rfl,
  fun l1 l2 l3 x st σ => dn_aload_n eL_law dL_law_869 rfl,
  fun l0 l1 l2 x st σ => dn_iload_n eL_law dL_law_870 rfl,
  fun l0 l1 l2 l3 st σ => dn_iconst eL_law dL_law_871 kc_iconst_1,
  fun l0 l1 l2 l3 x y st σ => dn_iadd eL_law dL_law_872⟩
set_option maxRecDepth 20000 in
theorem SL_law_14 : (∀ (l0 l1 l2 l3 : Option Value) (q : Nat) (i : Int32) (st : List Value) (σ : dS), den mL_law 873 [l0, l1, l2, l3] (.int i :: .ref q :: st) σ = if q ≤ dN then (dald σ q 0 i).bind (fun v => den mL_law 874 [l0, l1, l2, l3] (.int v :: st) σ) else none) ∧
  (∀ (l0 l1 l2 l3 : Option Value) (a0 : Int32) (b0 : Int32) (q : Nat) (σ : dS), den mL_law 874 [l0, l1, l2, l3] [.int a0, .ref q, .int b0] σ = if disO σ q 6 = true then ((dcall mX7_back [.ref q, .int a0] σ).bind fun r => den mL_law 877 [l0, l1, l2, l3] (r.1.toList ++ [.int b0]) r.2) else none) ∧
  (∀ (l0 l1 l2 l3 : Option Value) (x y : Int32) (st : List Value) (σ : dS), den mL_law 877 [l0, l1, l2, l3] (.int y :: .int x :: st) σ = if x = y then den mL_law 1057 [l0, l1, l2, l3] st σ else den mL_law 880 [l0, l1, l2, l3] st σ) ∧
  (∀ (l0 l1 l2 l3 : Option Value) (st : List Value) (σ : dS), den mL_law 880 [l0, l1, l2, l3] st σ = den mL_law 881 [l0, l1, l2, l3] (.int (nI 0) :: st) σ) ∧
  (∀ (l0 l1 l2 l3 : Option Value) (v : Int32) (σ : dS), den mL_law 881 [l0, l1, l2, l3] [.int v] σ = if v = 0 ∨ v = 1 then some (some (.int v), σ) else none) ∧
  (∀ (l0 l2 l3 : Option Value) (x : Nat) (st : List Value) (σ : dS), den mL_law 882 [l0, some (.ref x), l2, l3] st σ = den mL_law 883 [l0, some (.ref x), l2, l3] (.ref x :: st) σ) ∧
  (∀ (l1 l2 l3 : Option Value) (x : Nat) (st : List Value) (σ : dS), den mL_law 883 [some (.ref x), l1, l2, l3] st σ = den mL_law 884 [some (.ref x), l1, l2, l3] (.ref x :: st) σ) ∧
  (∀ (l0 l1 l2 : Option Value) (x : Int32) (st : List Value) (σ : dS), den mL_law 884 [l0, l1, l2, some (.int x)] st σ = den mL_law 885 [l0, l1, l2, some (.int x)] (.int x :: st) σ) ∧
  (∀ (l0 l1 l2 l3 : Option Value) (st : List Value) (σ : dS), den mL_law 885 [l0, l1, l2, l3] st σ = den mL_law 886 [l0, l1, l2, l3] (.int (nI 1) :: st) σ) ∧
  (∀ (l0 l1 l2 l3 : Option Value) (x y : Int32) (st : List Value) (σ : dS), den mL_law 886 [l0, l1, l2, l3] (.int y :: .int x :: st) σ = den mL_law 887 [l0, l1, l2, l3] (.int (x + y) :: st) σ) ∧
  (∀ (l0 l1 l2 l3 : Option Value) (q : Nat) (i : Int32) (st : List Value) (σ : dS), den mL_law 887 [l0, l1, l2, l3] (.int i :: .ref q :: st) σ = if q ≤ dN then (dald σ q 0 i).bind (fun v => den mL_law 888 [l0, l1, l2, l3] (.int v :: st) σ) else none) ∧
  (∀ (l1 l2 l3 : Option Value) (x : Nat) (st : List Value) (σ : dS), den mL_law 888 [some (.ref x), l1, l2, l3] st σ = den mL_law 889 [some (.ref x), l1, l2, l3] (.ref x :: st) σ) ∧
  (∀ (l0 l1 l2 : Option Value) (x : Int32) (st : List Value) (σ : dS), den mL_law 889 [l0, l1, l2, some (.int x)] st σ = den mL_law 890 [l0, l1, l2, some (.int x)] (.int x :: st) σ) ∧
  (∀ (l0 l1 l2 l3 : Option Value) (st : List Value) (σ : dS), den mL_law 890 [l0, l1, l2, l3] st σ = den mL_law 891 [l0, l1, l2, l3] (.int (nI 2) :: st) σ) ∧
  (∀ (l0 l1 l2 l3 : Option Value) (x y : Int32) (st : List Value) (σ : dS), den mL_law 891 [l0, l1, l2, l3] (.int y :: .int x :: st) σ = den mL_law 892 [l0, l1, l2, l3] (.int (x + y) :: st) σ) ∧
  (∀ (l0 l1 l2 l3 : Option Value) (q : Nat) (i : Int32) (st : List Value) (σ : dS), den mL_law 892 [l0, l1, l2, l3] (.int i :: .ref q :: st) σ = if q ≤ dN then (dald σ q 0 i).bind (fun v => den mL_law 893 [l0, l1, l2, l3] (.int v :: st) σ) else none) ∧
  (∀ (l1 l2 l3 : Option Value) (x : Nat) (st : List Value) (σ : dS), den mL_law 893 [some (.ref x), l1, l2, l3] st σ = den mL_law 894 [some (.ref x), l1, l2, l3] (.ref x :: st) σ) ∧
  (∀ (l0 l1 l2 : Option Value) (x : Int32) (st : List Value) (σ : dS), den mL_law 894 [l0, l1, l2, some (.int x)] st σ = den mL_law 895 [l0, l1, l2, some (.int x)] (.int x :: st) σ) ∧
  (∀ (l0 l1 l2 l3 : Option Value) (st : List Value) (σ : dS), den mL_law 895 [l0, l1, l2, l3] st σ = den mL_law 896 [l0, l1, l2, l3] (.int (nI 3) :: st) σ) ∧
  (∀ (l0 l1 l2 l3 : Option Value) (x y : Int32) (st : List Value) (σ : dS), den mL_law 896 [l0, l1, l2, l3] (.int y :: .int x :: st) σ = den mL_law 897 [l0, l1, l2, l3] (.int (x + y) :: st) σ) ∧
  (∀ (l0 l1 l2 l3 : Option Value) (q : Nat) (i : Int32) (st : List Value) (σ : dS), den mL_law 897 [l0, l1, l2, l3] (.int i :: .ref q :: st) σ = if q ≤ dN then (dald σ q 0 i).bind (fun v => den mL_law 898 [l0, l1, l2, l3] (.int v :: st) σ) else none) ∧
  (∀ (l0 l1 l2 l3 : Option Value) (a0 : Int32) (a1 : Int32) (a2 : Int32) (q : Nat) (σ : dS), den mL_law 898 [l0, l1, l2, l3] [.int a2, .int a1, .int a0, .ref q] σ = if disO σ q 5 = true then ((dcall mX6_sheet [.ref q, .int a0, .int a1, .int a2] σ).bind fun r => den mL_law 901 [l0, l1, l2, l3] (r.1.toList ++ []) r.2) else none) ∧
  (∀ (l0 l1 l3 : Option Value) (x : Nat) (st : List Value) (σ : dS), den mL_law 901 [l0, l1, some (.ref x), l3] st σ = den mL_law 902 [l0, l1, some (.ref x), l3] (.ref x :: st) σ) ∧
  (∀ (l1 l2 l3 : Option Value) (x : Nat) (st : List Value) (σ : dS), den mL_law 902 [some (.ref x), l1, l2, l3] st σ = den mL_law 903 [some (.ref x), l1, l2, l3] (.ref x :: st) σ) ∧
  (∀ (l0 l1 l2 : Option Value) (x : Int32) (st : List Value) (σ : dS), den mL_law 903 [l0, l1, l2, some (.int x)] st σ = den mL_law 904 [l0, l1, l2, some (.int x)] (.int x :: st) σ) ∧
  (∀ (l0 l1 l2 l3 : Option Value) (st : List Value) (σ : dS), den mL_law 904 [l0, l1, l2, l3] st σ = den mL_law 905 [l0, l1, l2, l3] (.int (nI 1) :: st) σ) ∧
  (∀ (l0 l1 l2 l3 : Option Value) (x y : Int32) (st : List Value) (σ : dS), den mL_law 905 [l0, l1, l2, l3] (.int y :: .int x :: st) σ = den mL_law 906 [l0, l1, l2, l3] (.int (x + y) :: st) σ) ∧
  (∀ (l0 l1 l2 l3 : Option Value) (q : Nat) (i : Int32) (st : List Value) (σ : dS), den mL_law 906 [l0, l1, l2, l3] (.int i :: .ref q :: st) σ = if q ≤ dN then (dald σ q 0 i).bind (fun v => den mL_law 907 [l0, l1, l2, l3] (.int v :: st) σ) else none) ∧
  (∀ (l1 l2 l3 : Option Value) (x : Nat) (st : List Value) (σ : dS), den mL_law 907 [some (.ref x), l1, l2, l3] st σ = den mL_law 908 [some (.ref x), l1, l2, l3] (.ref x :: st) σ) ∧
  (∀ (l0 l1 l2 : Option Value) (x : Int32) (st : List Value) (σ : dS), den mL_law 908 [l0, l1, l2, some (.int x)] st σ = den mL_law 909 [l0, l1, l2, some (.int x)] (.int x :: st) σ) ∧
  (∀ (l0 l1 l2 l3 : Option Value) (st : List Value) (σ : dS), den mL_law 909 [l0, l1, l2, l3] st σ = den mL_law 910 [l0, l1, l2, l3] (.int (nI 2) :: st) σ) ∧
  (∀ (l0 l1 l2 l3 : Option Value) (x y : Int32) (st : List Value) (σ : dS), den mL_law 910 [l0, l1, l2, l3] (.int y :: .int x :: st) σ = den mL_law 911 [l0, l1, l2, l3] (.int (x + y) :: st) σ) ∧
  (∀ (l0 l1 l2 l3 : Option Value) (q : Nat) (i : Int32) (st : List Value) (σ : dS), den mL_law 911 [l0, l1, l2, l3] (.int i :: .ref q :: st) σ = if q ≤ dN then (dald σ q 0 i).bind (fun v => den mL_law 912 [l0, l1, l2, l3] (.int v :: st) σ) else none) ∧
  (∀ (l1 l2 l3 : Option Value) (x : Nat) (st : List Value) (σ : dS), den mL_law 912 [some (.ref x), l1, l2, l3] st σ = den mL_law 913 [some (.ref x), l1, l2, l3] (.ref x :: st) σ) ∧
  (∀ (l0 l1 l2 : Option Value) (x : Int32) (st : List Value) (σ : dS), den mL_law 913 [l0, l1, l2, some (.int x)] st σ = den mL_law 914 [l0, l1, l2, some (.int x)] (.int x :: st) σ) ∧
  (∀ (l0 l1 l2 l3 : Option Value) (st : List Value) (σ : dS), den mL_law 914 [l0, l1, l2, l3] st σ = den mL_law 915 [l0, l1, l2, l3] (.int (nI 3) :: st) σ) ∧
  (∀ (l0 l1 l2 l3 : Option Value) (x y : Int32) (st : List Value) (σ : dS), den mL_law 915 [l0, l1, l2, l3] (.int y :: .int x :: st) σ = den mL_law 916 [l0, l1, l2, l3] (.int (x + y) :: st) σ) ∧
  (∀ (l0 l1 l2 l3 : Option Value) (q : Nat) (i : Int32) (st : List Value) (σ : dS), den mL_law 916 [l0, l1, l2, l3] (.int i :: .ref q :: st) σ = if q ≤ dN then (dald σ q 0 i).bind (fun v => den mL_law 917 [l0, l1, l2, l3] (.int v :: st) σ) else none) ∧
  (∀ (l0 l1 l2 l3 : Option Value) (a0 : Int32) (a1 : Int32) (a2 : Int32) (b0 : Int32) (q : Nat) (σ : dS), den mL_law 917 [l0, l1, l2, l3] [.int a2, .int a1, .int a0, .ref q, .int b0] σ = if disO σ q 6 = true then ((dcall mX7_sheet [.ref q, .int a0, .int a1, .int a2] σ).bind fun r => den mL_law 920 [l0, l1, l2, l3] (r.1.toList ++ [.int b0]) r.2) else none) ∧
  (∀ (l0 l1 l2 l3 : Option Value) (x y : Int32) (st : List Value) (σ : dS), den mL_law 920 [l0, l1, l2, l3] (.int y :: .int x :: st) σ = if x = y then den mL_law 1057 [l0, l1, l2, l3] st σ else den mL_law 923 [l0, l1, l2, l3] st σ) :=
  ⟨fun l0 l1 l2 l3 q i st σ => dn_iaload eL_law dL_law_873,
  fun l0 l1 l2 l3 a0 b0 q σ => rL_law_874 l0 l1 l2 l3 a0 b0 q σ,
  fun l0 l1 l2 l3 x y st σ => dn_icmp_eq eL_law dL_law_877 (by decide),
  fun l0 l1 l2 l3 st σ => dn_iconst eL_law dL_law_880 kc_iconst_0,
  fun l0 l1 l2 l3 v σ => dn_zreturn eL_law dL_law_881 rfl,
  fun l0 l2 l3 x st σ => dn_aload_n eL_law dL_law_882 rfl,
  fun l1 l2 l3 x st σ => dn_aload_n eL_law dL_law_883 rfl,
  fun l0 l1 l2 x st σ => dn_iload_n eL_law dL_law_884 rfl,
  fun l0 l1 l2 l3 st σ => dn_iconst eL_law dL_law_885 kc_iconst_1,
  fun l0 l1 l2 l3 x y st σ => dn_iadd eL_law dL_law_886,
  fun l0 l1 l2 l3 q i st σ => dn_iaload eL_law dL_law_887,
  fun l1 l2 l3 x st σ => dn_aload_n eL_law dL_law_888 rfl,
  fun l0 l1 l2 x st σ => dn_iload_n eL_law dL_law_889 rfl,
  fun l0 l1 l2 l3 st σ => dn_iconst eL_law dL_law_890 kc_iconst_2,
  fun l0 l1 l2 l3 x y st σ => dn_iadd eL_law dL_law_891,
  fun l0 l1 l2 l3 q i st σ => dn_iaload eL_law dL_law_892,
  fun l1 l2 l3 x st σ => dn_aload_n eL_law dL_law_893 rfl,
  fun l0 l1 l2 x st σ => dn_iload_n eL_law dL_law_894 rfl,
  fun l0 l1 l2 l3 st σ => dn_iconst eL_law dL_law_895 kc_iconst_3,
  fun l0 l1 l2 l3 x y st σ => dn_iadd eL_law dL_law_896,
  fun l0 l1 l2 l3 q i st σ => dn_iaload eL_law dL_law_897,
  fun l0 l1 l2 l3 a0 a1 a2 q σ => rL_law_898 l0 l1 l2 l3 a0 a1 a2 q σ,
  fun l0 l1 l3 x st σ => dn_aload_n eL_law dL_law_901 rfl,
  fun l1 l2 l3 x st σ => dn_aload_n eL_law dL_law_902 rfl,
  fun l0 l1 l2 x st σ => dn_iload_n eL_law dL_law_903 rfl,
  fun l0 l1 l2 l3 st σ => dn_iconst eL_law dL_law_904 kc_iconst_1,
  fun l0 l1 l2 l3 x y st σ => dn_iadd eL_law dL_law_905,
  fun l0 l1 l2 l3 q i st σ => dn_iaload eL_law dL_law_906,
  fun l1 l2 l3 x st σ => dn_aload_n eL_law dL_law_907 rfl,
  fun l0 l1 l2 x st σ => dn_iload_n eL_law dL_law_908 rfl,
  fun l0 l1 l2 l3 st σ => dn_iconst eL_law dL_law_909 kc_iconst_2,
  fun l0 l1 l2 l3 x y st σ => dn_iadd eL_law dL_law_910,
  fun l0 l1 l2 l3 q i st σ => dn_iaload eL_law dL_law_911,
  fun l1 l2 l3 x st σ => dn_aload_n eL_law dL_law_912 rfl,
  fun l0 l1 l2 x st σ => dn_iload_n eL_law dL_law_913 rfl,
  fun l0 l1 l2 l3 st σ => dn_iconst eL_law dL_law_914 kc_iconst_3,
  fun l0 l1 l2 l3 x y st σ => dn_iadd eL_law dL_law_915,
  fun l0 l1 l2 l3 q i st σ => dn_iaload eL_law dL_law_916,
  fun l0 l1 l2 l3 a0 a1 a2 b0 q σ => rL_law_917 l0 l1 l2 l3 a0 a1 a2 b0 q σ,
  fun l0 l1 l2 l3 x y st σ => dn_icmp_eq eL_law dL_law_920 (by decide)⟩
set_option maxRecDepth 20000 in
theorem SL_law_15 : (∀ (l0 l1 l2 l3 : Option Value) (st : List Value) (σ : dS), den mL_law 923 [l0, l1, l2, l3] st σ = den mL_law 924 [l0, l1, l2, l3] (.int (nI 0) :: st) σ) ∧
  (∀ (l0 l1 l2 l3 : Option Value) (v : Int32) (σ : dS), den mL_law 924 [l0, l1, l2, l3] [.int v] σ = if v = 0 ∨ v = 1 then some (some (.int v), σ) else none) ∧
  (∀ (l0 l2 l3 : Option Value) (x : Nat) (st : List Value) (σ : dS), den mL_law 925 [l0, some (.ref x), l2, l3] st σ = den mL_law 926 [l0, some (.ref x), l2, l3] (.ref x :: st) σ) ∧
  (∀ (l1 l2 l3 : Option Value) (x : Nat) (st : List Value) (σ : dS), den mL_law 926 [some (.ref x), l1, l2, l3] st σ = den mL_law 927 [some (.ref x), l1, l2, l3] (.ref x :: st) σ) ∧
  (∀ (l0 l1 l2 : Option Value) (x : Int32) (st : List Value) (σ : dS), den mL_law 927 [l0, l1, l2, some (.int x)] st σ = den mL_law 928 [l0, l1, l2, some (.int x)] (.int x :: st) σ) ∧
  (∀ (l0 l1 l2 l3 : Option Value) (st : List Value) (σ : dS), den mL_law 928 [l0, l1, l2, l3] st σ = den mL_law 929 [l0, l1, l2, l3] (.int (nI 1) :: st) σ) ∧
  (∀ (l0 l1 l2 l3 : Option Value) (x y : Int32) (st : List Value) (σ : dS), den mL_law 929 [l0, l1, l2, l3] (.int y :: .int x :: st) σ = den mL_law 930 [l0, l1, l2, l3] (.int (x + y) :: st) σ) ∧
  (∀ (l0 l1 l2 l3 : Option Value) (q : Nat) (i : Int32) (st : List Value) (σ : dS), den mL_law 930 [l0, l1, l2, l3] (.int i :: .ref q :: st) σ = if q ≤ dN then (dald σ q 0 i).bind (fun v => den mL_law 931 [l0, l1, l2, l3] (.int v :: st) σ) else none) ∧
  (∀ (l1 l2 l3 : Option Value) (x : Nat) (st : List Value) (σ : dS), den mL_law 931 [some (.ref x), l1, l2, l3] st σ = den mL_law 932 [some (.ref x), l1, l2, l3] (.ref x :: st) σ) ∧
  (∀ (l0 l1 l2 : Option Value) (x : Int32) (st : List Value) (σ : dS), den mL_law 932 [l0, l1, l2, some (.int x)] st σ = den mL_law 933 [l0, l1, l2, some (.int x)] (.int x :: st) σ) ∧
  (∀ (l0 l1 l2 l3 : Option Value) (st : List Value) (σ : dS), den mL_law 933 [l0, l1, l2, l3] st σ = den mL_law 934 [l0, l1, l2, l3] (.int (nI 2) :: st) σ) ∧
  (∀ (l0 l1 l2 l3 : Option Value) (x y : Int32) (st : List Value) (σ : dS), den mL_law 934 [l0, l1, l2, l3] (.int y :: .int x :: st) σ = den mL_law 935 [l0, l1, l2, l3] (.int (x + y) :: st) σ) ∧
  (∀ (l0 l1 l2 l3 : Option Value) (q : Nat) (i : Int32) (st : List Value) (σ : dS), den mL_law 935 [l0, l1, l2, l3] (.int i :: .ref q :: st) σ = if q ≤ dN then (dald σ q 0 i).bind (fun v => den mL_law 936 [l0, l1, l2, l3] (.int v :: st) σ) else none) ∧
  (∀ (l1 l2 l3 : Option Value) (x : Nat) (st : List Value) (σ : dS), den mL_law 936 [some (.ref x), l1, l2, l3] st σ = den mL_law 937 [some (.ref x), l1, l2, l3] (.ref x :: st) σ) ∧
  (∀ (l0 l1 l2 : Option Value) (x : Int32) (st : List Value) (σ : dS), den mL_law 937 [l0, l1, l2, some (.int x)] st σ = den mL_law 938 [l0, l1, l2, some (.int x)] (.int x :: st) σ) ∧
  (∀ (l0 l1 l2 l3 : Option Value) (st : List Value) (σ : dS), den mL_law 938 [l0, l1, l2, l3] st σ = den mL_law 939 [l0, l1, l2, l3] (.int (nI 3) :: st) σ) ∧
  (∀ (l0 l1 l2 l3 : Option Value) (x y : Int32) (st : List Value) (σ : dS), den mL_law 939 [l0, l1, l2, l3] (.int y :: .int x :: st) σ = den mL_law 940 [l0, l1, l2, l3] (.int (x + y) :: st) σ) ∧
  (∀ (l0 l1 l2 l3 : Option Value) (q : Nat) (i : Int32) (st : List Value) (σ : dS), den mL_law 940 [l0, l1, l2, l3] (.int i :: .ref q :: st) σ = if q ≤ dN then (dald σ q 0 i).bind (fun v => den mL_law 941 [l0, l1, l2, l3] (.int v :: st) σ) else none) ∧
  (∀ (l0 l1 l2 l3 : Option Value) (a0 : Int32) (a1 : Int32) (a2 : Int32) (q : Nat) (σ : dS), den mL_law 941 [l0, l1, l2, l3] [.int a2, .int a1, .int a0, .ref q] σ = if disO σ q 5 = true then ((dcall mX6_lay [.ref q, .int a0, .int a1, .int a2] σ).bind fun r => den mL_law 944 [l0, l1, l2, l3] (r.1.toList ++ []) r.2) else none) ∧
  (∀ (l0 l1 l3 : Option Value) (x : Nat) (st : List Value) (σ : dS), den mL_law 944 [l0, l1, some (.ref x), l3] st σ = den mL_law 945 [l0, l1, some (.ref x), l3] (.ref x :: st) σ) ∧
  (∀ (l1 l2 l3 : Option Value) (x : Nat) (st : List Value) (σ : dS), den mL_law 945 [some (.ref x), l1, l2, l3] st σ = den mL_law 946 [some (.ref x), l1, l2, l3] (.ref x :: st) σ) ∧
  (∀ (l0 l1 l2 : Option Value) (x : Int32) (st : List Value) (σ : dS), den mL_law 946 [l0, l1, l2, some (.int x)] st σ = den mL_law 947 [l0, l1, l2, some (.int x)] (.int x :: st) σ) ∧
  (∀ (l0 l1 l2 l3 : Option Value) (st : List Value) (σ : dS), den mL_law 947 [l0, l1, l2, l3] st σ = den mL_law 948 [l0, l1, l2, l3] (.int (nI 1) :: st) σ) ∧
  (∀ (l0 l1 l2 l3 : Option Value) (x y : Int32) (st : List Value) (σ : dS), den mL_law 948 [l0, l1, l2, l3] (.int y :: .int x :: st) σ = den mL_law 949 [l0, l1, l2, l3] (.int (x + y) :: st) σ) ∧
  (∀ (l0 l1 l2 l3 : Option Value) (q : Nat) (i : Int32) (st : List Value) (σ : dS), den mL_law 949 [l0, l1, l2, l3] (.int i :: .ref q :: st) σ = if q ≤ dN then (dald σ q 0 i).bind (fun v => den mL_law 950 [l0, l1, l2, l3] (.int v :: st) σ) else none) ∧
  (∀ (l1 l2 l3 : Option Value) (x : Nat) (st : List Value) (σ : dS), den mL_law 950 [some (.ref x), l1, l2, l3] st σ = den mL_law 951 [some (.ref x), l1, l2, l3] (.ref x :: st) σ) ∧
  (∀ (l0 l1 l2 : Option Value) (x : Int32) (st : List Value) (σ : dS), den mL_law 951 [l0, l1, l2, some (.int x)] st σ = den mL_law 952 [l0, l1, l2, some (.int x)] (.int x :: st) σ) ∧
  (∀ (l0 l1 l2 l3 : Option Value) (st : List Value) (σ : dS), den mL_law 952 [l0, l1, l2, l3] st σ = den mL_law 953 [l0, l1, l2, l3] (.int (nI 2) :: st) σ) ∧
  (∀ (l0 l1 l2 l3 : Option Value) (x y : Int32) (st : List Value) (σ : dS), den mL_law 953 [l0, l1, l2, l3] (.int y :: .int x :: st) σ = den mL_law 954 [l0, l1, l2, l3] (.int (x + y) :: st) σ) ∧
  (∀ (l0 l1 l2 l3 : Option Value) (q : Nat) (i : Int32) (st : List Value) (σ : dS), den mL_law 954 [l0, l1, l2, l3] (.int i :: .ref q :: st) σ = if q ≤ dN then (dald σ q 0 i).bind (fun v => den mL_law 955 [l0, l1, l2, l3] (.int v :: st) σ) else none) ∧
  (∀ (l1 l2 l3 : Option Value) (x : Nat) (st : List Value) (σ : dS), den mL_law 955 [some (.ref x), l1, l2, l3] st σ = den mL_law 956 [some (.ref x), l1, l2, l3] (.ref x :: st) σ) ∧
  (∀ (l0 l1 l2 : Option Value) (x : Int32) (st : List Value) (σ : dS), den mL_law 956 [l0, l1, l2, some (.int x)] st σ = den mL_law 957 [l0, l1, l2, some (.int x)] (.int x :: st) σ) ∧
  (∀ (l0 l1 l2 l3 : Option Value) (st : List Value) (σ : dS), den mL_law 957 [l0, l1, l2, l3] st σ = den mL_law 958 [l0, l1, l2, l3] (.int (nI 3) :: st) σ) ∧
  (∀ (l0 l1 l2 l3 : Option Value) (x y : Int32) (st : List Value) (σ : dS), den mL_law 958 [l0, l1, l2, l3] (.int y :: .int x :: st) σ = den mL_law 959 [l0, l1, l2, l3] (.int (x + y) :: st) σ) ∧
  (∀ (l0 l1 l2 l3 : Option Value) (q : Nat) (i : Int32) (st : List Value) (σ : dS), den mL_law 959 [l0, l1, l2, l3] (.int i :: .ref q :: st) σ = if q ≤ dN then (dald σ q 0 i).bind (fun v => den mL_law 960 [l0, l1, l2, l3] (.int v :: st) σ) else none) ∧
  (∀ (l0 l1 l2 l3 : Option Value) (a0 : Int32) (a1 : Int32) (a2 : Int32) (b0 : Int32) (q : Nat) (σ : dS), den mL_law 960 [l0, l1, l2, l3] [.int a2, .int a1, .int a0, .ref q, .int b0] σ = if disO σ q 6 = true then ((dcall mX7_lay [.ref q, .int a0, .int a1, .int a2] σ).bind fun r => den mL_law 963 [l0, l1, l2, l3] (r.1.toList ++ [.int b0]) r.2) else none) ∧
  (∀ (l0 l1 l2 l3 : Option Value) (x y : Int32) (st : List Value) (σ : dS), den mL_law 963 [l0, l1, l2, l3] (.int y :: .int x :: st) σ = if x = y then den mL_law 1057 [l0, l1, l2, l3] st σ else den mL_law 966 [l0, l1, l2, l3] st σ) ∧
  (∀ (l0 l1 l2 l3 : Option Value) (st : List Value) (σ : dS), den mL_law 966 [l0, l1, l2, l3] st σ = den mL_law 967 [l0, l1, l2, l3] (.int (nI 0) :: st) σ) ∧
  (∀ (l0 l1 l2 l3 : Option Value) (v : Int32) (σ : dS), den mL_law 967 [l0, l1, l2, l3] [.int v] σ = if v = 0 ∨ v = 1 then some (some (.int v), σ) else none) ∧
  (∀ (l0 l2 l3 : Option Value) (x : Nat) (st : List Value) (σ : dS), den mL_law 968 [l0, some (.ref x), l2, l3] st σ = den mL_law 969 [l0, some (.ref x), l2, l3] (.ref x :: st) σ) :=
  ⟨fun l0 l1 l2 l3 st σ => dn_iconst eL_law dL_law_923 kc_iconst_0,
  fun l0 l1 l2 l3 v σ => dn_zreturn eL_law dL_law_924 rfl,
  fun l0 l2 l3 x st σ => dn_aload_n eL_law dL_law_925 rfl,
  fun l1 l2 l3 x st σ => dn_aload_n eL_law dL_law_926 rfl,
  fun l0 l1 l2 x st σ => dn_iload_n eL_law dL_law_927 rfl,
  fun l0 l1 l2 l3 st σ => dn_iconst eL_law dL_law_928 kc_iconst_1,
  fun l0 l1 l2 l3 x y st σ => dn_iadd eL_law dL_law_929,
  fun l0 l1 l2 l3 q i st σ => dn_iaload eL_law dL_law_930,
  fun l1 l2 l3 x st σ => dn_aload_n eL_law dL_law_931 rfl,
  fun l0 l1 l2 x st σ => dn_iload_n eL_law dL_law_932 rfl,
  fun l0 l1 l2 l3 st σ => dn_iconst eL_law dL_law_933 kc_iconst_2,
  fun l0 l1 l2 l3 x y st σ => dn_iadd eL_law dL_law_934,
  fun l0 l1 l2 l3 q i st σ => dn_iaload eL_law dL_law_935,
  fun l1 l2 l3 x st σ => dn_aload_n eL_law dL_law_936 rfl,
  fun l0 l1 l2 x st σ => dn_iload_n eL_law dL_law_937 rfl,
  fun l0 l1 l2 l3 st σ => dn_iconst eL_law dL_law_938 kc_iconst_3,
  fun l0 l1 l2 l3 x y st σ => dn_iadd eL_law dL_law_939,
  fun l0 l1 l2 l3 q i st σ => dn_iaload eL_law dL_law_940,
  fun l0 l1 l2 l3 a0 a1 a2 q σ => rL_law_941 l0 l1 l2 l3 a0 a1 a2 q σ,
  fun l0 l1 l3 x st σ => dn_aload_n eL_law dL_law_944 rfl,
  fun l1 l2 l3 x st σ => dn_aload_n eL_law dL_law_945 rfl,
  fun l0 l1 l2 x st σ => dn_iload_n eL_law dL_law_946 rfl,
  fun l0 l1 l2 l3 st σ => dn_iconst eL_law dL_law_947 kc_iconst_1,
  fun l0 l1 l2 l3 x y st σ => dn_iadd eL_law dL_law_948,
  fun l0 l1 l2 l3 q i st σ => dn_iaload eL_law dL_law_949,
  fun l1 l2 l3 x st σ => dn_aload_n eL_law dL_law_950 rfl,
  fun l0 l1 l2 x st σ => dn_iload_n eL_law dL_law_951 rfl,
  fun l0 l1 l2 l3 st σ => dn_iconst eL_law dL_law_952 kc_iconst_2,
  fun l0 l1 l2 l3 x y st σ => dn_iadd eL_law dL_law_953,
  fun l0 l1 l2 l3 q i st σ => dn_iaload eL_law dL_law_954,
  fun l1 l2 l3 x st σ => dn_aload_n eL_law dL_law_955 rfl,
  fun l0 l1 l2 x st σ => dn_iload_n eL_law dL_law_956 rfl,
  fun l0 l1 l2 l3 st σ => dn_iconst eL_law dL_law_957 kc_iconst_3,
  fun l0 l1 l2 l3 x y st σ => dn_iadd eL_law dL_law_958,
  fun l0 l1 l2 l3 q i st σ => dn_iaload eL_law dL_law_959,
  fun l0 l1 l2 l3 a0 a1 a2 b0 q σ => rL_law_960 l0 l1 l2 l3 a0 a1 a2 b0 q σ,
  fun l0 l1 l2 l3 x y st σ => dn_icmp_eq eL_law dL_law_963 (by decide),
  fun l0 l1 l2 l3 st σ => dn_iconst eL_law dL_law_966 kc_iconst_0,
  fun l0 l1 l2 l3 v σ => dn_zreturn eL_law dL_law_967 rfl,
  fun l0 l2 l3 x st σ => dn_aload_n eL_law dL_law_968 rfl⟩
set_option maxRecDepth 20000 in
theorem SL_law_16 : (∀ (l1 l2 l3 : Option Value) (x : Nat) (st : List Value) (σ : dS), den mL_law 969 [some (.ref x), l1, l2, l3] st σ = den mL_law 970 [some (.ref x), l1, l2, l3] (.ref x :: st) σ) ∧
  (∀ (l0 l1 l2 : Option Value) (x : Int32) (st : List Value) (σ : dS), den mL_law 970 [l0, l1, l2, some (.int x)] st σ = den mL_law 971 [l0, l1, l2, some (.int x)] (.int x :: st) σ) ∧
  (∀ (l0 l1 l2 l3 : Option Value) (st : List Value) (σ : dS), den mL_law 971 [l0, l1, l2, l3] st σ = den mL_law 972 [l0, l1, l2, l3] (.int (nI 1) :: st) σ) ∧
  (∀ (l0 l1 l2 l3 : Option Value) (x y : Int32) (st : List Value) (σ : dS), den mL_law 972 [l0, l1, l2, l3] (.int y :: .int x :: st) σ = den mL_law 973 [l0, l1, l2, l3] (.int (x + y) :: st) σ) ∧
  (∀ (l0 l1 l2 l3 : Option Value) (q : Nat) (i : Int32) (st : List Value) (σ : dS), den mL_law 973 [l0, l1, l2, l3] (.int i :: .ref q :: st) σ = if q ≤ dN then (dald σ q 0 i).bind (fun v => den mL_law 974 [l0, l1, l2, l3] (.int v :: st) σ) else none) ∧
  (∀ (l1 l2 l3 : Option Value) (x : Nat) (st : List Value) (σ : dS), den mL_law 974 [some (.ref x), l1, l2, l3] st σ = den mL_law 975 [some (.ref x), l1, l2, l3] (.ref x :: st) σ) ∧
  (∀ (l0 l1 l2 : Option Value) (x : Int32) (st : List Value) (σ : dS), den mL_law 975 [l0, l1, l2, some (.int x)] st σ = den mL_law 976 [l0, l1, l2, some (.int x)] (.int x :: st) σ) ∧
  (∀ (l0 l1 l2 l3 : Option Value) (st : List Value) (σ : dS), den mL_law 976 [l0, l1, l2, l3] st σ = den mL_law 977 [l0, l1, l2, l3] (.int (nI 2) :: st) σ) ∧
  (∀ (l0 l1 l2 l3 : Option Value) (x y : Int32) (st : List Value) (σ : dS), den mL_law 977 [l0, l1, l2, l3] (.int y :: .int x :: st) σ = den mL_law 978 [l0, l1, l2, l3] (.int (x + y) :: st) σ) ∧
  (∀ (l0 l1 l2 l3 : Option Value) (q : Nat) (i : Int32) (st : List Value) (σ : dS), den mL_law 978 [l0, l1, l2, l3] (.int i :: .ref q :: st) σ = if q ≤ dN then (dald σ q 0 i).bind (fun v => den mL_law 979 [l0, l1, l2, l3] (.int v :: st) σ) else none) ∧
  (∀ (l1 l2 l3 : Option Value) (x : Nat) (st : List Value) (σ : dS), den mL_law 979 [some (.ref x), l1, l2, l3] st σ = den mL_law 980 [some (.ref x), l1, l2, l3] (.ref x :: st) σ) ∧
  (∀ (l0 l1 l2 : Option Value) (x : Int32) (st : List Value) (σ : dS), den mL_law 980 [l0, l1, l2, some (.int x)] st σ = den mL_law 981 [l0, l1, l2, some (.int x)] (.int x :: st) σ) ∧
  (∀ (l0 l1 l2 l3 : Option Value) (st : List Value) (σ : dS), den mL_law 981 [l0, l1, l2, l3] st σ = den mL_law 982 [l0, l1, l2, l3] (.int (nI 3) :: st) σ) ∧
  (∀ (l0 l1 l2 l3 : Option Value) (x y : Int32) (st : List Value) (σ : dS), den mL_law 982 [l0, l1, l2, l3] (.int y :: .int x :: st) σ = den mL_law 983 [l0, l1, l2, l3] (.int (x + y) :: st) σ) ∧
  (∀ (l0 l1 l2 l3 : Option Value) (q : Nat) (i : Int32) (st : List Value) (σ : dS), den mL_law 983 [l0, l1, l2, l3] (.int i :: .ref q :: st) σ = if q ≤ dN then (dald σ q 0 i).bind (fun v => den mL_law 984 [l0, l1, l2, l3] (.int v :: st) σ) else none) ∧
  (∀ (l1 l2 l3 : Option Value) (x : Nat) (st : List Value) (σ : dS), den mL_law 984 [some (.ref x), l1, l2, l3] st σ = den mL_law 985 [some (.ref x), l1, l2, l3] (.ref x :: st) σ) ∧
  (∀ (l0 l1 l2 : Option Value) (x : Int32) (st : List Value) (σ : dS), den mL_law 985 [l0, l1, l2, some (.int x)] st σ = den mL_law 986 [l0, l1, l2, some (.int x)] (.int x :: st) σ) ∧
  (∀ (l0 l1 l2 l3 : Option Value) (st : List Value) (σ : dS), den mL_law 986 [l0, l1, l2, l3] st σ = den mL_law 987 [l0, l1, l2, l3] (.int (nI 4) :: st) σ) ∧
  (∀ (l0 l1 l2 l3 : Option Value) (x y : Int32) (st : List Value) (σ : dS), den mL_law 987 [l0, l1, l2, l3] (.int y :: .int x :: st) σ = den mL_law 988 [l0, l1, l2, l3] (.int (x + y) :: st) σ) ∧
  (∀ (l0 l1 l2 l3 : Option Value) (q : Nat) (i : Int32) (st : List Value) (σ : dS), den mL_law 988 [l0, l1, l2, l3] (.int i :: .ref q :: st) σ = if q ≤ dN then (dald σ q 0 i).bind (fun v => den mL_law 989 [l0, l1, l2, l3] (.int v :: st) σ) else none) ∧
  (∀ (l0 l1 l2 l3 : Option Value) (a0 : Int32) (a1 : Int32) (a2 : Int32) (a3 : Int32) (q : Nat) (σ : dS), den mL_law 989 [l0, l1, l2, l3] [.int a3, .int a2, .int a1, .int a0, .ref q] σ = if disO σ q 5 = true then ((dcall mX6_read [.ref q, .int a0, .int a1, .int a2, .int a3] σ).bind fun r => den mL_law 992 [l0, l1, l2, l3] (r.1.toList ++ []) r.2) else none) ∧
  (∀ (l0 l1 l3 : Option Value) (x : Nat) (st : List Value) (σ : dS), den mL_law 992 [l0, l1, some (.ref x), l3] st σ = den mL_law 993 [l0, l1, some (.ref x), l3] (.ref x :: st) σ) ∧
  (∀ (l1 l2 l3 : Option Value) (x : Nat) (st : List Value) (σ : dS), den mL_law 993 [some (.ref x), l1, l2, l3] st σ = den mL_law 994 [some (.ref x), l1, l2, l3] (.ref x :: st) σ) ∧
  (∀ (l0 l1 l2 : Option Value) (x : Int32) (st : List Value) (σ : dS), den mL_law 994 [l0, l1, l2, some (.int x)] st σ = den mL_law 995 [l0, l1, l2, some (.int x)] (.int x :: st) σ) ∧
  (∀ (l0 l1 l2 l3 : Option Value) (st : List Value) (σ : dS), den mL_law 995 [l0, l1, l2, l3] st σ = den mL_law 996 [l0, l1, l2, l3] (.int (nI 1) :: st) σ) ∧
  (∀ (l0 l1 l2 l3 : Option Value) (x y : Int32) (st : List Value) (σ : dS), den mL_law 996 [l0, l1, l2, l3] (.int y :: .int x :: st) σ = den mL_law 997 [l0, l1, l2, l3] (.int (x + y) :: st) σ) ∧
  (∀ (l0 l1 l2 l3 : Option Value) (q : Nat) (i : Int32) (st : List Value) (σ : dS), den mL_law 997 [l0, l1, l2, l3] (.int i :: .ref q :: st) σ = if q ≤ dN then (dald σ q 0 i).bind (fun v => den mL_law 998 [l0, l1, l2, l3] (.int v :: st) σ) else none) ∧
  (∀ (l1 l2 l3 : Option Value) (x : Nat) (st : List Value) (σ : dS), den mL_law 998 [some (.ref x), l1, l2, l3] st σ = den mL_law 999 [some (.ref x), l1, l2, l3] (.ref x :: st) σ) ∧
  (∀ (l0 l1 l2 : Option Value) (x : Int32) (st : List Value) (σ : dS), den mL_law 999 [l0, l1, l2, some (.int x)] st σ = den mL_law 1000 [l0, l1, l2, some (.int x)] (.int x :: st) σ) ∧
  (∀ (l0 l1 l2 l3 : Option Value) (st : List Value) (σ : dS), den mL_law 1000 [l0, l1, l2, l3] st σ = den mL_law 1001 [l0, l1, l2, l3] (.int (nI 2) :: st) σ) ∧
  (∀ (l0 l1 l2 l3 : Option Value) (x y : Int32) (st : List Value) (σ : dS), den mL_law 1001 [l0, l1, l2, l3] (.int y :: .int x :: st) σ = den mL_law 1002 [l0, l1, l2, l3] (.int (x + y) :: st) σ) ∧
  (∀ (l0 l1 l2 l3 : Option Value) (q : Nat) (i : Int32) (st : List Value) (σ : dS), den mL_law 1002 [l0, l1, l2, l3] (.int i :: .ref q :: st) σ = if q ≤ dN then (dald σ q 0 i).bind (fun v => den mL_law 1003 [l0, l1, l2, l3] (.int v :: st) σ) else none) ∧
  (∀ (l1 l2 l3 : Option Value) (x : Nat) (st : List Value) (σ : dS), den mL_law 1003 [some (.ref x), l1, l2, l3] st σ = den mL_law 1004 [some (.ref x), l1, l2, l3] (.ref x :: st) σ) ∧
  (∀ (l0 l1 l2 : Option Value) (x : Int32) (st : List Value) (σ : dS), den mL_law 1004 [l0, l1, l2, some (.int x)] st σ = den mL_law 1005 [l0, l1, l2, some (.int x)] (.int x :: st) σ) ∧
  (∀ (l0 l1 l2 l3 : Option Value) (st : List Value) (σ : dS), den mL_law 1005 [l0, l1, l2, l3] st σ = den mL_law 1006 [l0, l1, l2, l3] (.int (nI 3) :: st) σ) ∧
  (∀ (l0 l1 l2 l3 : Option Value) (x y : Int32) (st : List Value) (σ : dS), den mL_law 1006 [l0, l1, l2, l3] (.int y :: .int x :: st) σ = den mL_law 1007 [l0, l1, l2, l3] (.int (x + y) :: st) σ) ∧
  (∀ (l0 l1 l2 l3 : Option Value) (q : Nat) (i : Int32) (st : List Value) (σ : dS), den mL_law 1007 [l0, l1, l2, l3] (.int i :: .ref q :: st) σ = if q ≤ dN then (dald σ q 0 i).bind (fun v => den mL_law 1008 [l0, l1, l2, l3] (.int v :: st) σ) else none) ∧
  (∀ (l1 l2 l3 : Option Value) (x : Nat) (st : List Value) (σ : dS), den mL_law 1008 [some (.ref x), l1, l2, l3] st σ = den mL_law 1009 [some (.ref x), l1, l2, l3] (.ref x :: st) σ) ∧
  (∀ (l0 l1 l2 : Option Value) (x : Int32) (st : List Value) (σ : dS), den mL_law 1009 [l0, l1, l2, some (.int x)] st σ = den mL_law 1010 [l0, l1, l2, some (.int x)] (.int x :: st) σ) ∧
  (∀ (l0 l1 l2 l3 : Option Value) (st : List Value) (σ : dS), den mL_law 1010 [l0, l1, l2, l3] st σ = den mL_law 1011 [l0, l1, l2, l3] (.int (nI 4) :: st) σ) :=
  ⟨fun l1 l2 l3 x st σ => dn_aload_n eL_law dL_law_969 rfl,
  fun l0 l1 l2 x st σ => dn_iload_n eL_law dL_law_970 rfl,
  fun l0 l1 l2 l3 st σ => dn_iconst eL_law dL_law_971 kc_iconst_1,
  fun l0 l1 l2 l3 x y st σ => dn_iadd eL_law dL_law_972,
  fun l0 l1 l2 l3 q i st σ => dn_iaload eL_law dL_law_973,
  fun l1 l2 l3 x st σ => dn_aload_n eL_law dL_law_974 rfl,
  fun l0 l1 l2 x st σ => dn_iload_n eL_law dL_law_975 rfl,
  fun l0 l1 l2 l3 st σ => dn_iconst eL_law dL_law_976 kc_iconst_2,
  fun l0 l1 l2 l3 x y st σ => dn_iadd eL_law dL_law_977,
  fun l0 l1 l2 l3 q i st σ => dn_iaload eL_law dL_law_978,
  fun l1 l2 l3 x st σ => dn_aload_n eL_law dL_law_979 rfl,
  fun l0 l1 l2 x st σ => dn_iload_n eL_law dL_law_980 rfl,
  fun l0 l1 l2 l3 st σ => dn_iconst eL_law dL_law_981 kc_iconst_3,
  fun l0 l1 l2 l3 x y st σ => dn_iadd eL_law dL_law_982,
  fun l0 l1 l2 l3 q i st σ => dn_iaload eL_law dL_law_983,
  fun l1 l2 l3 x st σ => dn_aload_n eL_law dL_law_984 rfl,
  fun l0 l1 l2 x st σ => dn_iload_n eL_law dL_law_985 rfl,
  fun l0 l1 l2 l3 st σ => dn_iconst eL_law dL_law_986 kc_iconst_4,
  fun l0 l1 l2 l3 x y st σ => dn_iadd eL_law dL_law_987,
  fun l0 l1 l2 l3 q i st σ => dn_iaload eL_law dL_law_988,
  fun l0 l1 l2 l3 a0 a1 a2 a3 q σ => rL_law_989 l0 l1 l2 l3 a0 a1 a2 a3 q σ,
  fun l0 l1 l3 x st σ => dn_aload_n eL_law dL_law_992 rfl,
  fun l1 l2 l3 x st σ => dn_aload_n eL_law dL_law_993 rfl,
  fun l0 l1 l2 x st σ => dn_iload_n eL_law dL_law_994 rfl,
  fun l0 l1 l2 l3 st σ => dn_iconst eL_law dL_law_995 kc_iconst_1,
  fun l0 l1 l2 l3 x y st σ => dn_iadd eL_law dL_law_996,
  fun l0 l1 l2 l3 q i st σ => dn_iaload eL_law dL_law_997,
  fun l1 l2 l3 x st σ => dn_aload_n eL_law dL_law_998 rfl,
  fun l0 l1 l2 x st σ => dn_iload_n eL_law dL_law_999 rfl,
  fun l0 l1 l2 l3 st σ => dn_iconst eL_law dL_law_1000 kc_iconst_2,
  fun l0 l1 l2 l3 x y st σ => dn_iadd eL_law dL_law_1001,
  fun l0 l1 l2 l3 q i st σ => dn_iaload eL_law dL_law_1002,
  fun l1 l2 l3 x st σ => dn_aload_n eL_law dL_law_1003 rfl,
  fun l0 l1 l2 x st σ => dn_iload_n eL_law dL_law_1004 rfl,
  fun l0 l1 l2 l3 st σ => dn_iconst eL_law dL_law_1005 kc_iconst_3,
  fun l0 l1 l2 l3 x y st σ => dn_iadd eL_law dL_law_1006,
  fun l0 l1 l2 l3 q i st σ => dn_iaload eL_law dL_law_1007,
  fun l1 l2 l3 x st σ => dn_aload_n eL_law dL_law_1008 rfl,
  fun l0 l1 l2 x st σ => dn_iload_n eL_law dL_law_1009 rfl,
  fun l0 l1 l2 l3 st σ => dn_iconst eL_law dL_law_1010 kc_iconst_4⟩
set_option maxRecDepth 20000 in
theorem SL_law_17 : (∀ (l0 l1 l2 l3 : Option Value) (x y : Int32) (st : List Value) (σ : dS), den mL_law 1011 [l0, l1, l2, l3] (.int y :: .int x :: st) σ = den mL_law 1012 [l0, l1, l2, l3] (.int (x + y) :: st) σ) ∧
  (∀ (l0 l1 l2 l3 : Option Value) (q : Nat) (i : Int32) (st : List Value) (σ : dS), den mL_law 1012 [l0, l1, l2, l3] (.int i :: .ref q :: st) σ = if q ≤ dN then (dald σ q 0 i).bind (fun v => den mL_law 1013 [l0, l1, l2, l3] (.int v :: st) σ) else none) ∧
  (∀ (l0 l1 l2 l3 : Option Value) (a0 : Int32) (a1 : Int32) (a2 : Int32) (a3 : Int32) (b0 : Int32) (q : Nat) (σ : dS), den mL_law 1013 [l0, l1, l2, l3] [.int a3, .int a2, .int a1, .int a0, .ref q, .int b0] σ = if disO σ q 6 = true then ((dcall mX7_read [.ref q, .int a0, .int a1, .int a2, .int a3] σ).bind fun r => den mL_law 1016 [l0, l1, l2, l3] (r.1.toList ++ [.int b0]) r.2) else none) ∧
  (∀ (l0 l1 l2 l3 : Option Value) (x y : Int32) (st : List Value) (σ : dS), den mL_law 1016 [l0, l1, l2, l3] (.int y :: .int x :: st) σ = if x = y then den mL_law 1057 [l0, l1, l2, l3] st σ else den mL_law 1019 [l0, l1, l2, l3] st σ) ∧
  (∀ (l0 l1 l2 l3 : Option Value) (st : List Value) (σ : dS), den mL_law 1019 [l0, l1, l2, l3] st σ = den mL_law 1020 [l0, l1, l2, l3] (.int (nI 0) :: st) σ) ∧
  (∀ (l0 l1 l2 l3 : Option Value) (v : Int32) (σ : dS), den mL_law 1020 [l0, l1, l2, l3] [.int v] σ = if v = 0 ∨ v = 1 then some (some (.int v), σ) else none) ∧
  (∀ (l0 l2 l3 : Option Value) (x : Nat) (st : List Value) (σ : dS), den mL_law 1021 [l0, some (.ref x), l2, l3] st σ = den mL_law 1022 [l0, some (.ref x), l2, l3] (.ref x :: st) σ) ∧
  (∀ (l0 l1 l2 l3 : Option Value) (q : Nat) (σ : dS), den mL_law 1022 [l0, l1, l2, l3] [.ref q] σ = if disO σ q 5 = true then ((dcall mX6_torn [.ref q] σ).bind fun r => den mL_law 1025 [l0, l1, l2, l3] (r.1.toList ++ []) r.2) else none) ∧
  (∀ (l0 l1 l3 : Option Value) (x : Nat) (st : List Value) (σ : dS), den mL_law 1025 [l0, l1, some (.ref x), l3] st σ = den mL_law 1026 [l0, l1, some (.ref x), l3] (.ref x :: st) σ) ∧
  (∀ (l0 l1 l2 l3 : Option Value) (b0 : Int32) (q : Nat) (σ : dS), den mL_law 1026 [l0, l1, l2, l3] [.ref q, .int b0] σ = if disO σ q 6 = true then ((dcall mX7_torn [.ref q] σ).bind fun r => den mL_law 1029 [l0, l1, l2, l3] (r.1.toList ++ [.int b0]) r.2) else none) ∧
  (∀ (l0 l1 l2 l3 : Option Value) (x y : Int32) (st : List Value) (σ : dS), den mL_law 1029 [l0, l1, l2, l3] (.int y :: .int x :: st) σ = if x = y then den mL_law 1057 [l0, l1, l2, l3] st σ else den mL_law 1032 [l0, l1, l2, l3] st σ) ∧
  (∀ (l0 l1 l2 l3 : Option Value) (st : List Value) (σ : dS), den mL_law 1032 [l0, l1, l2, l3] st σ = den mL_law 1033 [l0, l1, l2, l3] (.int (nI 0) :: st) σ) ∧
  (∀ (l0 l1 l2 l3 : Option Value) (v : Int32) (σ : dS), den mL_law 1033 [l0, l1, l2, l3] [.int v] σ = if v = 0 ∨ v = 1 then some (some (.int v), σ) else none) ∧
  (∀ (l0 l2 l3 : Option Value) (x : Nat) (st : List Value) (σ : dS), den mL_law 1034 [l0, some (.ref x), l2, l3] st σ = den mL_law 1035 [l0, some (.ref x), l2, l3] (.ref x :: st) σ) ∧
  (∀ (l1 l2 l3 : Option Value) (x : Nat) (st : List Value) (σ : dS), den mL_law 1035 [some (.ref x), l1, l2, l3] st σ = den mL_law 1036 [some (.ref x), l1, l2, l3] (.ref x :: st) σ) ∧
  (∀ (l0 l1 l2 : Option Value) (x : Int32) (st : List Value) (σ : dS), den mL_law 1036 [l0, l1, l2, some (.int x)] st σ = den mL_law 1037 [l0, l1, l2, some (.int x)] (.int x :: st) σ) ∧
  (∀ (l0 l1 l2 l3 : Option Value) (st : List Value) (σ : dS), den mL_law 1037 [l0, l1, l2, l3] st σ = den mL_law 1038 [l0, l1, l2, l3] (.int (nI 1) :: st) σ) ∧
  (∀ (l0 l1 l2 l3 : Option Value) (x y : Int32) (st : List Value) (σ : dS), den mL_law 1038 [l0, l1, l2, l3] (.int y :: .int x :: st) σ = den mL_law 1039 [l0, l1, l2, l3] (.int (x + y) :: st) σ) ∧
  (∀ (l0 l1 l2 l3 : Option Value) (q : Nat) (i : Int32) (st : List Value) (σ : dS), den mL_law 1039 [l0, l1, l2, l3] (.int i :: .ref q :: st) σ = if q ≤ dN then (dald σ q 0 i).bind (fun v => den mL_law 1040 [l0, l1, l2, l3] (.int v :: st) σ) else none) ∧
  (∀ (l0 l1 l2 l3 : Option Value) (a0 : Int32) (q : Nat) (σ : dS), den mL_law 1040 [l0, l1, l2, l3] [.int a0, .ref q] σ = if disO σ q 5 = true then ((dcall mX6_count [.ref q, .int a0] σ).bind fun r => den mL_law 1043 [l0, l1, l2, l3] (r.1.toList ++ []) r.2) else none) ∧
  (∀ (l0 l1 l3 : Option Value) (x : Nat) (st : List Value) (σ : dS), den mL_law 1043 [l0, l1, some (.ref x), l3] st σ = den mL_law 1044 [l0, l1, some (.ref x), l3] (.ref x :: st) σ) ∧
  (∀ (l1 l2 l3 : Option Value) (x : Nat) (st : List Value) (σ : dS), den mL_law 1044 [some (.ref x), l1, l2, l3] st σ = den mL_law 1045 [some (.ref x), l1, l2, l3] (.ref x :: st) σ) ∧
  (∀ (l0 l1 l2 : Option Value) (x : Int32) (st : List Value) (σ : dS), den mL_law 1045 [l0, l1, l2, some (.int x)] st σ = den mL_law 1046 [l0, l1, l2, some (.int x)] (.int x :: st) σ) ∧
  (∀ (l0 l1 l2 l3 : Option Value) (st : List Value) (σ : dS), den mL_law 1046 [l0, l1, l2, l3] st σ = den mL_law 1047 [l0, l1, l2, l3] (.int (nI 1) :: st) σ) ∧
  (∀ (l0 l1 l2 l3 : Option Value) (x y : Int32) (st : List Value) (σ : dS), den mL_law 1047 [l0, l1, l2, l3] (.int y :: .int x :: st) σ = den mL_law 1048 [l0, l1, l2, l3] (.int (x + y) :: st) σ) ∧
  (∀ (l0 l1 l2 l3 : Option Value) (q : Nat) (i : Int32) (st : List Value) (σ : dS), den mL_law 1048 [l0, l1, l2, l3] (.int i :: .ref q :: st) σ = if q ≤ dN then (dald σ q 0 i).bind (fun v => den mL_law 1049 [l0, l1, l2, l3] (.int v :: st) σ) else none) ∧
  (∀ (l0 l1 l2 l3 : Option Value) (a0 : Int32) (b0 : Int32) (q : Nat) (σ : dS), den mL_law 1049 [l0, l1, l2, l3] [.int a0, .ref q, .int b0] σ = if disO σ q 6 = true then ((dcall mX7_count [.ref q, .int a0] σ).bind fun r => den mL_law 1052 [l0, l1, l2, l3] (r.1.toList ++ [.int b0]) r.2) else none) ∧
  (∀ (l0 l1 l2 l3 : Option Value) (x y : Int32) (st : List Value) (σ : dS), den mL_law 1052 [l0, l1, l2, l3] (.int y :: .int x :: st) σ = if x = y then den mL_law 1057 [l0, l1, l2, l3] st σ else den mL_law 1055 [l0, l1, l2, l3] st σ) ∧
  (∀ (l0 l1 l2 l3 : Option Value) (st : List Value) (σ : dS), den mL_law 1055 [l0, l1, l2, l3] st σ = den mL_law 1056 [l0, l1, l2, l3] (.int (nI 0) :: st) σ) ∧
  (∀ (l0 l1 l2 l3 : Option Value) (v : Int32) (σ : dS), den mL_law 1056 [l0, l1, l2, l3] [.int v] σ = if v = 0 ∨ v = 1 then some (some (.int v), σ) else none) ∧
  (∀ (l0 l1 : Option Value) (x : Int32) (y : Nat) (st : List Value) (σ : dS), den mL_law 1057 [l0, l1, some (.ref y), some (.int x)] st σ = den mL_law 1060 [l0, l1, some (.ref y), some (.int (x + nI 5))] st σ) ∧
  (∀ (l0 l1 l2 l3 : Option Value) (st : List Value) (σ : dS), den mL_law 1060 [l0, l1, l2, l3] st σ = den mL_law 18 [l0, l1, l2, l3] st σ) ∧
  (∀ (l0 l1 l2 l3 : Option Value) (st : List Value) (σ : dS), den mL_law 1063 [l0, l1, l2, l3] st σ = den mL_law 1064 [l0, l1, l2, l3] (.int (nI 1) :: st) σ) ∧
  (∀ (l0 l1 l2 l3 : Option Value) (v : Int32) (σ : dS), den mL_law 1064 [l0, l1, l2, l3] [.int v] σ = if v = 0 ∨ v = 1 then some (some (.int v), σ) else none) :=
  ⟨fun l0 l1 l2 l3 x y st σ => dn_iadd eL_law dL_law_1011,
  fun l0 l1 l2 l3 q i st σ => dn_iaload eL_law dL_law_1012,
  fun l0 l1 l2 l3 a0 a1 a2 a3 b0 q σ => rL_law_1013 l0 l1 l2 l3 a0 a1 a2 a3 b0 q σ,
  fun l0 l1 l2 l3 x y st σ => dn_icmp_eq eL_law dL_law_1016 (by decide),
  fun l0 l1 l2 l3 st σ => dn_iconst eL_law dL_law_1019 kc_iconst_0,
  fun l0 l1 l2 l3 v σ => dn_zreturn eL_law dL_law_1020 rfl,
  fun l0 l2 l3 x st σ => dn_aload_n eL_law dL_law_1021 rfl,
  fun l0 l1 l2 l3 q σ => rL_law_1022 l0 l1 l2 l3 q σ,
  fun l0 l1 l3 x st σ => dn_aload_n eL_law dL_law_1025 rfl,
  fun l0 l1 l2 l3 b0 q σ => rL_law_1026 l0 l1 l2 l3 b0 q σ,
  fun l0 l1 l2 l3 x y st σ => dn_icmp_eq eL_law dL_law_1029 (by decide),
  fun l0 l1 l2 l3 st σ => dn_iconst eL_law dL_law_1032 kc_iconst_0,
  fun l0 l1 l2 l3 v σ => dn_zreturn eL_law dL_law_1033 rfl,
  fun l0 l2 l3 x st σ => dn_aload_n eL_law dL_law_1034 rfl,
  fun l1 l2 l3 x st σ => dn_aload_n eL_law dL_law_1035 rfl,
  fun l0 l1 l2 x st σ => dn_iload_n eL_law dL_law_1036 rfl,
  fun l0 l1 l2 l3 st σ => dn_iconst eL_law dL_law_1037 kc_iconst_1,
  fun l0 l1 l2 l3 x y st σ => dn_iadd eL_law dL_law_1038,
  fun l0 l1 l2 l3 q i st σ => dn_iaload eL_law dL_law_1039,
  fun l0 l1 l2 l3 a0 q σ => rL_law_1040 l0 l1 l2 l3 a0 q σ,
  fun l0 l1 l3 x st σ => dn_aload_n eL_law dL_law_1043 rfl,
  fun l1 l2 l3 x st σ => dn_aload_n eL_law dL_law_1044 rfl,
  fun l0 l1 l2 x st σ => dn_iload_n eL_law dL_law_1045 rfl,
  fun l0 l1 l2 l3 st σ => dn_iconst eL_law dL_law_1046 kc_iconst_1,
  fun l0 l1 l2 l3 x y st σ => dn_iadd eL_law dL_law_1047,
  fun l0 l1 l2 l3 q i st σ => dn_iaload eL_law dL_law_1048,
  fun l0 l1 l2 l3 a0 b0 q σ => rL_law_1049 l0 l1 l2 l3 a0 b0 q σ,
  fun l0 l1 l2 l3 x y st σ => dn_icmp_eq eL_law dL_law_1052 (by decide),
  fun l0 l1 l2 l3 st σ => dn_iconst eL_law dL_law_1055 kc_iconst_0,
  fun l0 l1 l2 l3 v σ => dn_zreturn eL_law dL_law_1056 rfl,
  fun l0 l1 x y st σ => dn_iinc (v := nI 5) eL_law dL_law_1057 rfl kc_iconst_5 rfl,
  fun l0 l1 l2 l3 st σ => dn_goto eL_law dL_law_1060 (by decide),
  fun l0 l1 l2 l3 st σ => dn_iconst eL_law dL_law_1063 kc_iconst_1,
  fun l0 l1 l2 l3 v σ => dn_zreturn eL_law dL_law_1064 rfl⟩

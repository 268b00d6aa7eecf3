section RUN5
variable {Lx : Nat} {F A : Nat → Nat → Int32} {J : Nat → Nat → Int64} {Q : Nat}
/-- the machine's fields over an if -/
def gI1 (Q : Nat) (F : Nat → Nat → Int32) (ch g : Bool) : Nat → Nat → Int32 := if ch = true then up F Q (up (F Q) 4 (F Q 4 + (if g = true then nI 1 else nI 4))) else F
def gI2 (Q : Nat) (F : Nat → Nat → Int32) (j : Nat) (ch g : Bool) : Nat → Nat → Int32 := if (ch && g) = true then up F Q (up (F Q) 2 (F Q 2 ||| (nI 3 <<< (nI (2 * j + 1) &&& 31)))) else F
def gI3 (Q : Nat) (F : Nat → Nat → Int32) (j : Nat) (d y : Bool) : Nat → Nat → Int32 := if d = true then up F Q (up (up (F Q) 1 (F Q 1 ||| (nI 1 <<< (nI (if y = true then 2 * j + 1 else 2 * j + 2) &&& 31)))) 3 (F Q 3 + nI 1)) else F
theorem c_goOverIf (hQ : isM Q) {j : Nat} (hj : j < 6) (g ch d y : Bool) : dcall mX2_goOverIf [.ref Q, .int (nI j), .int (zI g), .int (zI ch), .int (zI d), .int (zI y)] (mk Lx F A J) = some (none, mk Lx (gI3 Q (gI2 Q (gI1 Q F ch g) j ch g) j d y) A J) := by
  have e : 2 * j + 1 + 1 = 2 * j + 2 := by omega
  cases ch <;> cases g <;> cases d <;> cases y <;> simp (disch := omega) only [CX2_goOverIf, SX2_goOverIf_0, SX2_goOverIf_1, Gm hQ, Pm hQ, nI_m, nI_add, e, up_eq, up_ne, up_up, zIt, zIf, nI_e0, gI1, gI2, gI3, Bool.true_and, Bool.false_and, Bool.and_true, Bool.and_false, Option.bind_some, Option.bind_none, if_true, if_false, zr0, zr1, one11, one01, one0, one1, Option.toList_some, Option.toList_none, List.cons_append, List.nil_append, Nat.reduceEqDiff, Nat.reduceAdd, not_false_eq_true, not_true_eq_false, and_true, true_and, and_false, false_and, or_true, true_or, or_false, false_or, and_self, or_self, Bool.false_eq_true]
end RUN5

/-! THE DEEP MACHINE: the methods' bytecode, run over a picture of the heap in which a reference is a place (0 .. dN - 1 the cells of the system and of the reference; dN the script; dN + 1 + j the text j). 'none' where the machine would throw or where this machine doesn't follow. -/
def dN : Nat := 75
abbrev dE : Type := (Nat × vp_A) ⊕ (Nat × List Value)
abbrev dS : Type := Nat → dE
abbrev dL : Type := List (Option Value)
abbrev dO : Type := (Nat × dL × List Value × dS) ⊕ ((Option Value) ⊕ (Nat × List Value × Nat × dL × List Value))
def dup1 (σ : dS) (q : Nat) (e : dE) : dS := fun j => if j = q then e else σ j
/-- what the operand stack has on top -/
def dpi : List Value → Option (Int32 × List Value)
  | .int x :: r => some (x, r)
  | _ => none
def dpl : List Value → Option (Int64 × List Value)
  | .long x :: r => some (x, r)
  | _ => none
def dpr : List Value → Option (Nat × List Value)
  | .ref x :: r => some (x, r)
  | _ => none
def dp2 (st : List Value) : Option (Int32 × Int32 × List Value) := (dpi st).bind fun a => (dpi a.2).bind fun b => some (b.1, a.1, b.2)
def dp2l (st : List Value) : Option (Int64 × Int64 × List Value) := (dpl st).bind fun a => (dpl a.2).bind fun b => some (b.1, a.1, b.2)
theorem dpi_some {st r : List Value} {x : Int32} (h : dpi st = some (x, r)) : st = .int x :: r := by
  unfold dpi at h
  split at h <;> cases h
  rfl
theorem dpl_some {st r : List Value} {x : Int64} (h : dpl st = some (x, r)) : st = .long x :: r := by
  unfold dpl at h
  split at h <;> cases h
  rfl
theorem dpr_some {st r : List Value} {x : Nat} (h : dpr st = some (x, r)) : st = .ref x :: r := by
  unfold dpr at h
  split at h <;> cases h
  rfl
theorem dp2_some {st r : List Value} {x y : Int32} (h : dp2 st = some (x, y, r)) : st = .int y :: .int x :: r := by
  obtain ⟨⟨a, ra⟩, h1, h2⟩ := Option.bind_eq_some_iff.mp h
  obtain ⟨⟨b, rb⟩, h3, h4⟩ := Option.bind_eq_some_iff.mp h2
  cases h4
  rw [dpi_some h1, ← dpi_some h3]
theorem dp2l_some {st r : List Value} {x y : Int64} (h : dp2l st = some (x, y, r)) : st = .long y :: .long x :: r := by
  obtain ⟨⟨a, ra⟩, h1, h2⟩ := Option.bind_eq_some_iff.mp h
  obtain ⟨⟨b, rb⟩, h3, h4⟩ := Option.bind_eq_some_iff.mp h2
  cases h4
  rw [dpl_some h1, ← dpl_some h3]
/-- the heap's reads and writes -/
def dget (σ : dS) (q ci k : Nat) : Option Value := if q < dN then (match σ q with
  | .inr (c, fs) => if c = ci then fs[k]? else none
  | .inl _ => none) else none
def dput (σ : dS) (q ci k : Nat) (v : Value) : Option dS := if q < dN then (match σ q with
  | .inr (c, fs) => if c = ci ∧ k < fs.length then some (dup1 σ q (.inr (c, fs.set k v))) else none
  | .inl _ => none) else none
def dfit (ty : FieldType) (v : Value) : Bool := match ty, v with
  | .int, .int _ => true
  | .long, .long _ => true
  | .boolean, .int x => x == 0 || x == 1
  | _, _ => false
def dfty (ci k : Nat) : Option FieldType := match vwCl[ci]? with
  | some (_, T, N) => if k < N ∧ (T k).2.2.2 = false then parseFieldDescriptor (T k).2.2.1 else none
  | none => none
def dai (σ : dS) (q t : Nat) : Option (Nat × (Nat → Int32)) := match σ q with
  | .inl (t', n, .inl f) => if t' = t then some (n, f) else none
  | _ => none
def dal (σ : dS) (q t : Nat) : Option (Nat × (Nat → Int64)) := match σ q with
  | .inl (t', n, .inr (.inl f)) => if t' = t then some (n, f) else none
  | _ => none
def dar (σ : dS) (q : Nat) : Option (Nat × Nat × (Nat → Option Nat)) := match σ q with
  | .inl (t', n, .inr (.inr (.inr (.inr f)))) => some (t', n, f)
  | _ => none
def dix (i : Int32) (n : Nat) : Option Nat := if i < 0 ∨ n ≤ i.toNatClampNeg then none else some i.toNatClampNeg
/-- one load of an int array's cell, t its type's number (0 int, 1 byte, 2 boolean) -/
def dald (σ : dS) (q t : Nat) (i : Int32) : Option Int32 := (dai σ q t).bind fun a => (dix i a.1).bind fun j => some (a.2 j)
def dast (σ : dS) (q t : Nat) (i x : Int32) : Option dS := if q < dN then (dai σ q t).bind fun a => (dix i a.1).bind fun j => some (dup1 σ q (.inl (t, a.1, .inl (upd a.2 j x)))) else none
def dlld (σ : dS) (q : Nat) (i : Int32) : Option Int64 := if q < dN then (dal σ q 3).bind fun a => (dix i a.1).bind fun j => some (a.2 j) else none
def dlst (σ : dS) (q : Nat) (i : Int32) (x : Int64) : Option dS := if q < dN then (dal σ q 3).bind fun a => (dix i a.1).bind fun j => some (dup1 σ q (.inl (3, a.1, .inr (.inl (vp_updL a.2 j x))))) else none
def drld (σ : dS) (q : Nat) (i : Int32) : Option Value := if q < dN then (dar σ q).bind fun a => if a.1 = 4 ∨ a.1 = 5 then (dix i a.2.1).bind fun j => some (va_rf (a.2.2 j)) else none else none
def dtag (σ : dS) (q : Nat) : Option (Nat × Nat) := match σ q with
  | .inl (t, a) => if t < 6 then some (t, a.1) else none
  | .inr _ => none
def dalen (σ : dS) (q : Nat) : Option Int32 := if q < dN then (dtag σ q).map (fun a => Int32.ofNat a.2) else if q = dN then (dai σ q 0).map (fun a => Int32.ofNat a.1) else none
def dbld (σ : dS) (q : Nat) (i : Int32) : Option Int32 := if q < dN then (match dtag σ q with
  | some (1, _) => dald σ q 1 i
  | some (2, _) => dald σ q 2 i
  | _ => none) else none
def dbst (σ : dS) (q : Nat) (i x : Int32) : Option dS := match dtag σ q with
  | some (1, _) => dast σ q 1 i (vp_nar .byte x)
  | some (2, _) => dast σ q 2 i (vp_nar .boolean x)
  | _ => none
def dcopy (σ : dS) (q0 : Nat) (sp : Int32) (q1 : Nat) (dp n : Int32) : Option dS := if q0 < dN ∧ q1 < dN then (dai σ q0 0).bind fun a => (dai σ q1 0).bind fun b => if (sp < 0 ∨ dp < 0 ∨ n < 0) ∨ a.1 < sp.toNatClampNeg + n.toNatClampNeg ∨ b.1 < dp.toNatClampNeg + n.toNatClampNeg then none else some (dup1 σ q1 (.inl (0, b.1, .inl (va_cpy a.2 b.2 sp.toNatClampNeg dp.toNatClampNeg n.toNatClampNeg)))) else none
/-- the locals -/
def dldI (L : dL) (i : Nat) : Option Int32 := match L[i]? with
  | some (some (.int x)) => some x
  | _ => none
def dldL (L : dL) (i : Nat) : Option Int64 := match L[i]? with
  | some (some (.long x)) => some x
  | _ => none
def dldR (L : dL) (i : Nat) : Option Nat := match L[i]? with
  | some (some (.ref x)) => some x
  | _ => none
def dprev (L : dL) (i : Nat) : Bool := match i with
  | 0 => true
  | j + 1 => match L[j]? with
    | some (some v) => v.category == 1
    | _ => true
def dst1 (L : dL) (i : Nat) (v : Value) : Option dL := if i < L.length ∧ dprev L i = true then some (L.set i (some v)) else none
def dst2 (L : dL) (i : Nat) (v : Value) : Option dL := if i + 1 < L.length ∧ dprev L i = true then some ((L.set i (some v)).set (i + 1) none) else none
def dargs : List Value → dL
  | [] => []
  | v :: vs => if v.category = 2 then some v :: none :: dargs vs else some v :: dargs vs
def dent (M : Nat) (as : List Value) : dL := dargs as ++ List.replicate (dmaxL M - (dargs as).length) none
def dnx (pc : Nat) (L : dL) (st : List Value) (σ : dS) : Option dO := some (.inl (pc, L, st, σ))
def djump (pc : Nat) (off : Int) (L : dL) (st : List Value) (σ : dS) : Option dO := if 0 ≤ (pc : Int) + off then some (.inl (((pc : Int) + off).toNat, L, st, σ)) else none
def dbr (b : Bool) (pc : Nat) (off : Int) (L : dL) (st : List Value) (σ : dS) : Option dO := if 0 ≤ (pc : Int) + off then dnx (if b = true then ((pc : Int) + off).toNat else pc + 3) L st σ else none
def dcnd (c : Jvm.ClassFile.Cond) (x y : Int32) : Bool := match c with
  | .eq => decide (x = y)
  | .ne => decide (¬ x = y)
  | .lt => decide (x < y)
  | .ge => decide (y ≤ x)
  | .gt => decide (y < x)
  | .le => decide (x ≤ y)
def dcat (st : List Value) : Nat := (st.map fun v => v.category).sum
def dcok (M M' : Nat) : Bool := decide (M' < M) && decide (dfrm M' + 1 ≤ dfrm M) && decide (8 + (dmaxL M' + 11) + dlcl M' ≤ dlcl M)
def dcl (M pc M' : Nat) (L : dL) (st : List Value) : Option dO := if dcok M M' = true ∧ dnar M' ≤ st.length ∧ dcat (st.drop (dnar M')) ≤ 8 ∧ (dargs (st.take (dnar M')).reverse).length ≤ dmaxL M' then some (.inr (.inr (M', (st.take (dnar M')).reverse, pc + 3, L, st.drop (dnar M')))) else none
def disO (σ : dS) (q ci : Nat) : Bool := decide (q < dN) && (match σ q with
  | .inr (c, _) => decide (c = ci)
  | .inl _ => false)
def drecv (st : List Value) (n : Nat) : Option Nat := match st[n - 1]? with
  | some (.ref q) => some q
  | _ => none
def dretv (M : Nat) (v : Value) : Option dO := match dret M, v with
  | some .int, .int x => some (.inr (.inl (some (.int x))))
  | some .boolean, .int x => if x = 0 ∨ x = 1 then some (.inr (.inl (some (.int x)))) else none
  | some .long, .long x => some (.inr (.inl (some (.long x))))
  | some (.object _), .ref q => some (.inr (.inl (some (.ref q))))
  | _, _ => none
def dexec (M pc : Nat) (i : Instr) (L : dL) (st : List Value) (σ : dS) : Option dO := match i with
  | .iconst n => dnx (pc + 1) L (.int (Int32.ofInt n) :: st) σ
  | .bipush n => dnx (pc + 2) L (.int (Int8.ofInt n).toInt32 :: st) σ
  | .sipush n => dnx (pc + 3) L (.int (Int16.ofInt n).toInt32 :: st) σ
  | .lconst n => dnx (pc + 1) L (.long (Int64.ofNat n) :: st) σ
  | .ldc k => match dit (down M) k with
    | some v => dnx (pc + 2) L (.int v.1 :: st) σ
    | none => (dsr (down M) k).bind fun j => dnx (pc + 2) L (.ref (dN + 1 + j) :: st) σ
  | .ldc_w k => (dit (down M) k).bind fun v => dnx (pc + 3) L (.int v.1 :: st) σ
  | .ldc2_w k => (dlg (down M) k).bind fun v => dnx (pc + 3) L (.long v.1 :: st) σ
  | .iload_n n => (dldI L n).bind fun x => dnx (pc + 1) L (.int x :: st) σ
  | .iload n => (dldI L n).bind fun x => dnx (pc + 2) L (.int x :: st) σ
  | .lload_n n => (dldL L n).bind fun x => dnx (pc + 1) L (.long x :: st) σ
  | .lload n => (dldL L n).bind fun x => dnx (pc + 2) L (.long x :: st) σ
  | .aload_n n => (dldR L n).bind fun x => dnx (pc + 1) L (.ref x :: st) σ
  | .aload n => (dldR L n).bind fun x => dnx (pc + 2) L (.ref x :: st) σ
  | .istore_n n => (dpi st).bind fun a => (dst1 L n (.int a.1)).bind fun L' => dnx (pc + 1) L' a.2 σ
  | .istore n => (dpi st).bind fun a => (dst1 L n (.int a.1)).bind fun L' => dnx (pc + 2) L' a.2 σ
  | .lstore_n n => (dpl st).bind fun a => (dst2 L n (.long a.1)).bind fun L' => dnx (pc + 1) L' a.2 σ
  | .lstore n => (dpl st).bind fun a => (dst2 L n (.long a.1)).bind fun L' => dnx (pc + 2) L' a.2 σ
  | .astore_n n => (dpr st).bind fun a => (dst1 L n (.ref a.1)).bind fun L' => dnx (pc + 1) L' a.2 σ
  | .astore n => (dpr st).bind fun a => (dst1 L n (.ref a.1)).bind fun L' => dnx (pc + 2) L' a.2 σ
  | .iinc n k => (dldI L n).bind fun x => (dst1 L n (.int (x + Int32.ofInt k))).bind fun L' => dnx (pc + 3) L' st σ
  | .iadd => (dp2 st).bind fun a => dnx (pc + 1) L (.int (a.1 + a.2.1) :: a.2.2) σ
  | .isub => (dp2 st).bind fun a => dnx (pc + 1) L (.int (a.1 - a.2.1) :: a.2.2) σ
  | .imul => (dp2 st).bind fun a => dnx (pc + 1) L (.int (a.1 * a.2.1) :: a.2.2) σ
  | .iand => (dp2 st).bind fun a => dnx (pc + 1) L (.int (a.1 &&& a.2.1) :: a.2.2) σ
  | .ior => (dp2 st).bind fun a => dnx (pc + 1) L (.int (a.1 ||| a.2.1) :: a.2.2) σ
  | .ixor => (dp2 st).bind fun a => dnx (pc + 1) L (.int (a.1 ^^^ a.2.1) :: a.2.2) σ
  | .idiv => (dp2 st).bind fun a => if a.2.1 = 0 then none else dnx (pc + 1) L (.int (a.1 / a.2.1) :: a.2.2) σ
  | .irem => (dp2 st).bind fun a => if a.2.1 = 0 then none else dnx (pc + 1) L (.int (a.1 - a.1 / a.2.1 * a.2.1) :: a.2.2) σ
  | .ishl => (dp2 st).bind fun a => dnx (pc + 1) L (.int (a.1 <<< (a.2.1 &&& 31)) :: a.2.2) σ
  | .ishr => (dp2 st).bind fun a => dnx (pc + 1) L (.int (a.1 >>> (a.2.1 &&& 31)) :: a.2.2) σ
  | .ineg => (dpi st).bind fun a => dnx (pc + 1) L (.int (-a.1) :: a.2) σ
  | .i2l => (dpi st).bind fun a => dnx (pc + 1) L (.long a.1.toInt64 :: a.2) σ
  | .i2b => (dpi st).bind fun a => dnx (pc + 1) L (.int a.1.toInt8.toInt32 :: a.2) σ
  | .i2s => (dpi st).bind fun a => dnx (pc + 1) L (.int a.1.toInt16.toInt32 :: a.2) σ
  | .ladd => (dp2l st).bind fun a => dnx (pc + 1) L (.long (a.1 + a.2.1) :: a.2.2) σ
  | .lsub => (dp2l st).bind fun a => dnx (pc + 1) L (.long (a.1 - a.2.1) :: a.2.2) σ
  | .lmul => (dp2l st).bind fun a => dnx (pc + 1) L (.long (a.1 * a.2.1) :: a.2.2) σ
  | .ldiv => (dp2l st).bind fun a => if a.2.1 = 0 then none else dnx (pc + 1) L (.long (a.1 / a.2.1) :: a.2.2) σ
  | .lrem => (dp2l st).bind fun a => if a.2.1 = 0 then none else dnx (pc + 1) L (.long (a.1 - a.1 / a.2.1 * a.2.1) :: a.2.2) σ
  | .lcmp => (dp2l st).bind fun a => dnx (pc + 1) L (.int (lg_cmp a.1 a.2.1) :: a.2.2) σ
  | .dup => match st with
    | v :: r => if v.category = 1 then dnx (pc + 1) L (v :: v :: r) σ else none
    | [] => none
  | .dup2 => match st with
    | v :: w :: r => if v.category = 1 ∧ w.category = 1 then dnx (pc + 1) L (v :: w :: v :: w :: r) σ else none
    | _ => none
  | .pop => match st with
    | v :: r => if v.category = 1 then dnx (pc + 1) L r σ else none
    | [] => none
  | .goto off => djump pc off L st σ
  | .ifCond c off => (dpi st).bind fun a => dbr (dcnd c a.1 0) pc off L a.2 σ
  | .if_icmp c off => (dp2 st).bind fun a => dbr (dcnd c a.1 a.2.1) pc off L a.2.2 σ
  | .tableswitch d lo hi offs => (dpi st).bind fun a => if a.1.toInt < lo ∨ hi < a.1.toInt then djump pc d L a.2 σ else (offs[(a.1.toInt - lo).toNat]?).bind fun o => djump pc o L a.2 σ
  | .getfield k => (dfld (down M) k).bind fun f => (dpr st).bind fun a => (dget σ a.1 f.1 f.2.1).bind fun v => dnx (pc + 3) L (v :: a.2) σ
  | .putfield k => (dfld (down M) k).bind fun f => match st with
    | v :: r => (dpr r).bind fun a => (dfty f.1 f.2.1).bind fun ty => if dfit ty v = true then (dput σ a.1 f.1 f.2.1 v).bind fun σ' => dnx (pc + 3) L a.2 σ' else none
    | [] => none
  | .iaload => (dpi st).bind fun a => (dpr a.2).bind fun b => if b.1 ≤ dN then (dald σ b.1 0 a.1).bind fun x => dnx (pc + 1) L (.int x :: b.2) σ else none
  | .iastore => (dp2 st).bind fun a => (dpr a.2.2).bind fun b => (dast σ b.1 0 a.1 a.2.1).bind fun σ' => dnx (pc + 1) L b.2 σ'
  | .baload => (dpi st).bind fun a => (dpr a.2).bind fun b => (dbld σ b.1 a.1).bind fun x => dnx (pc + 1) L (.int x :: b.2) σ
  | .bastore => (dp2 st).bind fun a => (dpr a.2.2).bind fun b => (dbst σ b.1 a.1 a.2.1).bind fun σ' => dnx (pc + 1) L b.2 σ'
  | .laload => (dpi st).bind fun a => (dpr a.2).bind fun b => (dlld σ b.1 a.1).bind fun x => dnx (pc + 1) L (.long x :: b.2) σ
  | .lastore => (dpl st).bind fun a => (dpi a.2).bind fun i => (dpr i.2).bind fun b => (dlst σ b.1 i.1 a.1).bind fun σ' => dnx (pc + 1) L b.2 σ'
  | .aaload => (dpi st).bind fun a => (dpr a.2).bind fun b => (drld σ b.1 a.1).bind fun x => dnx (pc + 1) L (x :: b.2) σ
  | .arraylength => (dpr st).bind fun a => (dalen σ a.1).bind fun x => dnx (pc + 1) L (.int x :: a.2) σ
  | .invokevirtual k => (dlink (down M) k).bind fun e => if e.1 = 0 then (drecv st (dnar e.2.1)).bind fun q => if disO σ q (dci e.2.1) = true then dcl M pc e.2.1 L st else none else if e.1 = 3 then (drecv st (dnar e.2.1)).bind fun q => if dN + 1 ≤ q ∧ q < dN + 7 then dcl M pc e.2.1 L st else none else none
  | .invokestatic k => (dlink (down M) k).bind fun e => if e.1 = 1 ∨ e.1 = 2 then dcl M pc e.2.1 L st else if e.1 = 4 then (dp2 st).bind fun a => (dpr a.2.2).bind fun b => (dpi b.2).bind fun i => (dpr i.2).bind fun d => if 1 ≤ dfrm M ∧ dcat d.2 + (7 + 11) ≤ dlcl M then (dcopy σ d.1 i.1 b.1 a.1 a.2.1).bind fun σ' => dnx (pc + 3) L d.2 σ' else none else if e.1 = 5 then (dp2 st).bind fun a => if 1 ≤ dfrm M ∧ dcat a.2.2 + 13 ≤ dlcl M then dnx (pc + 3) L (.int (if a.1 < a.2.1 then a.2.1 else a.1) :: a.2.2) σ else none else none
  | .ireturn => match st with
    | [.int v] => dretv M (.int v)
    | _ => none
  | .lreturn => match st with
    | [.long v] => dretv M (.long v)
    | _ => none
  | .areturn => match st with
    | [.ref v] => dretv M (.ref v)
    | _ => none
  | .return_ => match st, dret M with
    | [], none => some (.inr (.inl none))
    | _, _ => none
  | _ => none
/-- what an instruction takes of the code -/
def dlen (i : Instr) (n : Nat) : Bool := match i with
  | .tableswitch _ _ _ _ => true
  | .bipush _ | .ldc _ | .iload _ | .lload _ | .aload _ | .istore _ | .lstore _ | .astore _ => n == 2
  | .sipush _ | .ldc_w _ | .ldc2_w _ | .iinc _ _ | .goto _ | .ifCond _ _ | .if_icmp _ _ | .getfield _ | .putfield _ | .invokevirtual _ | .invokestatic _ => n == 3
  | _ => n == 1
def dstep (M pc : Nat) (L : dL) (st : List Value) (σ : dS) : Option dO := match decode (dcode M) pc with
  | .ok (i, n) => if dlen i n = true then dexec M pc i L st σ else none
  | .error _ => none
/-- the two texts' members -/
def dprm (M : Nat) (as : List Value) : Option (Option Value) := match M, as with
  | 0, [.ref q] => if dN + 1 ≤ q then (dstr[q - (dN + 1)]?).map (fun t => some (.int (nI t.length))) else none
  | 1, [.ref q, .int i] => if dN + 1 ≤ q then (dstr[q - (dN + 1)]?).bind fun t => if i < 0 ∨ t.length ≤ i.toNatClampNeg then none else some (some (.int (t.getD i.toNatClampNeg 0))) else none
  | _, _ => none
def drun : Nat → Nat → Nat → dL → List Value → dS → Option (Option Value × dS)
  | 0, _, _, _, _, _ => none
  | n + 1, M, pc, L, st, σ => match dstep M pc L st σ with
    | none => none
    | some (.inl (pc', L', st', σ')) => drun n M pc' L' st' σ'
    | some (.inr (.inl r)) => some (r, σ)
    | some (.inr (.inr (M', as, pc', L', st'))) => if M' < 2 then (match dprm M' as with
        | none => none
        | some r => drun n M pc' L' (r.toList ++ st') σ) else (match drun n M' 0 (dent M' as) [] σ with
        | none => none
        | some (r, σ') => drun n M pc' L' (r.toList ++ st') σ')
theorem drun_up : ∀ (n M pc : Nat) (L : dL) (st : List Value) (σ : dS) (r : Option Value × dS), drun n M pc L st σ = some r → drun (n + 1) M pc L st σ = some r := by
  intro n
  induction n with
  | zero => intro M pc L st σ r h; cases h
  | succ n ih =>
    intro M pc L st σ r h
    rw [drun] at h ⊢
    cases hs : dstep M pc L st σ with
    | none => rw [hs] at h; cases h
    | some o =>
      rw [hs] at h
      rcases o with ⟨pc', L', st', σ'⟩ | (v | ⟨M', as, pc', L', st'⟩)
      · exact ih _ _ _ _ _ _ h
      · exact h
      · dsimp only at h ⊢
        by_cases hM : M' < 2
        · rw [if_pos hM] at h ⊢
          cases hp : dprm M' as with
          | none => rw [hp] at h; cases h
          | some v => rw [hp] at h; exact ih _ _ _ _ _ _ h
        · rw [if_neg hM] at h ⊢
          cases hc : drun n M' 0 (dent M' as) [] σ with
          | none => rw [hc] at h; cases h
          | some v =>
            rw [hc] at h
            rw [ih _ _ _ _ _ _ hc]
            exact ih _ _ _ _ _ _ h
theorem drun_mono {n k M pc : Nat} {L : dL} {st : List Value} {σ : dS} {r : Option Value × dS} (hk : n ≤ k) (h : drun n M pc L st σ = some r) : drun k M pc L st σ = some r := by
  induction hk with
  | refl => exact h
  | step _ ih => exact drun_up _ _ _ _ _ _ _ ih
/-- what comes of it, whatever time it takes -/
noncomputable def den (M pc : Nat) (L : dL) (st : List Value) (σ : dS) : Option (Option Value × dS) := by
  classical
  exact if h : ∃ n, (drun n M pc L st σ).isSome = true then drun (Classical.choose h) M pc L st σ else none
theorem den_iff {M pc : Nat} {L : dL} {st : List Value} {σ : dS} {r : Option Value × dS} : den M pc L st σ = some r ↔ ∃ n, drun n M pc L st σ = some r := by
  classical
  unfold den
  by_cases h : ∃ n, (drun n M pc L st σ).isSome = true
  · rw [dif_pos h]
    refine ⟨fun q => ⟨_, q⟩, fun ⟨n, hn⟩ => ?_⟩
    obtain ⟨v, hv⟩ := Option.isSome_iff_exists.mp (Classical.choose_spec h)
    rw [hv]
    have h1 := drun_mono (Nat.le_max_left n (Classical.choose h)) hn
    have h2 := drun_mono (Nat.le_max_right n (Classical.choose h)) hv
    rw [h1] at h2
    exact h2.symm
  · rw [dif_neg h]
    exact ⟨fun q => (by cases q), fun ⟨n, hn⟩ => absurd ⟨n, by rw [hn]; rfl⟩ h⟩
noncomputable def dcall (M : Nat) (as : List Value) (σ : dS) : Option (Option Value × dS) := if M < 2 then (dprm M as).map (fun r => (r, σ)) else den M 0 (dent M as) [] σ
theorem opt_ext {α : Type} {a b : Option α} (h : ∀ x, a = some x ↔ b = some x) : a = b := by
  cases a with
  | none =>
    cases b with
    | none => rfl
    | some y => exact absurd ((h y).mpr rfl) (by simp)
  | some x => exact ((h x).mp rfl).symm
theorem den_nx {M pc pc' : Nat} {L L' : dL} {st st' : List Value} {σ σ' : dS} (h : dstep M pc L st σ = some (.inl (pc', L', st', σ'))) : den M pc L st σ = den M pc' L' st' σ' := by
  refine opt_ext fun r => ?_
  rw [den_iff, den_iff]
  refine ⟨fun ⟨n, hn⟩ => ?_, fun ⟨n, hn⟩ => ⟨n + 1, by rw [drun, h]; exact hn⟩⟩
  cases n with
  | zero => cases hn
  | succ n => rw [drun, h] at hn; exact ⟨n, hn⟩
theorem den_ret {M pc : Nat} {L : dL} {st : List Value} {σ : dS} {v : Option Value} (h : dstep M pc L st σ = some (.inr (.inl v))) : den M pc L st σ = some (v, σ) := den_iff.mpr ⟨1, by rw [drun, h]⟩
theorem den_no {M pc : Nat} {L : dL} {st : List Value} {σ : dS} (h : dstep M pc L st σ = none) : den M pc L st σ = none := by
  refine opt_ext fun r => ?_
  rw [den_iff]
  refine ⟨fun ⟨n, hn⟩ => ?_, fun q => (by cases q)⟩
  cases n with
  | zero => cases hn
  | succ n => rw [drun, h] at hn; cases hn
theorem den_cl {M pc pc' M' : Nat} {as : List Value} {L L' : dL} {st st' : List Value} {σ : dS} (h : dstep M pc L st σ = some (.inr (.inr (M', as, pc', L', st')))) : den M pc L st σ = (dcall M' as σ).bind fun r => den M pc' L' (r.1.toList ++ st') r.2 := by
  refine opt_ext fun r => ?_
  rw [den_iff, Option.bind_eq_some_iff]
  unfold dcall
  by_cases hM : M' < 2
  · rw [if_pos hM]
    refine ⟨fun ⟨n, hn⟩ => ?_, fun ⟨v, h1, h2⟩ => ?_⟩
    · cases n with
      | zero => cases hn
      | succ n =>
        rw [drun, h] at hn
        dsimp only at hn
        rw [if_pos hM] at hn
        cases hp : dprm M' as with
        | none => rw [hp] at hn; cases hn
        | some v => rw [hp] at hn; exact ⟨(v, σ), rfl, den_iff.mpr ⟨n, hn⟩⟩
    · cases hp : dprm M' as with
      | none => rw [hp] at h1; cases h1
      | some w =>
        rw [hp] at h1
        cases h1
        obtain ⟨n, hn⟩ := den_iff.mp h2
        refine ⟨n + 1, ?_⟩
        rw [drun, h]
        dsimp only
        rw [if_pos hM, hp]
        exact hn
  · rw [if_neg hM]
    refine ⟨fun ⟨n, hn⟩ => ?_, fun ⟨v, h1, h2⟩ => ?_⟩
    · cases n with
      | zero => cases hn
      | succ n =>
        rw [drun, h] at hn
        dsimp only at hn
        rw [if_neg hM] at hn
        cases hc : drun n M' 0 (dent M' as) [] σ with
        | none => rw [hc] at hn; cases hn
        | some v => rw [hc] at hn; exact ⟨v, den_iff.mpr ⟨n, hc⟩, den_iff.mpr ⟨n, hn⟩⟩
    · obtain ⟨n, hn⟩ := den_iff.mp h1
      obtain ⟨k, hk⟩ := den_iff.mp h2
      refine ⟨max n k + 1, ?_⟩
      rw [drun, h]
      dsimp only
      rw [if_neg hM, drun_mono (Nat.le_max_left n k) hn]
      exact drun_mono (Nat.le_max_right n k) hk

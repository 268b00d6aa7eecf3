/-! plain facts: Int32 as Nat, programs as functions -/
theorem leN {q : Nat} (h : q ≤ 75) : q ≤ dN := h
theorem n0 : nI 0 = 0 := by decide
theorem n1 : nI 1 = 1 := by decide
theorem one1 : (nI 1 = 0) ↔ False := by decide
theorem one0 : (nI 0 = 0) ↔ True := by decide
theorem one11 : (nI 1 = 1) ↔ True := by decide
theorem one01 : (nI 0 = 1) ↔ False := by decide
theorem zr0 : (nI 0 = 0 ∨ nI 0 = 1) ↔ True := by decide
theorem zr1 : (nI 1 = 0 ∨ nI 1 = 1) ↔ True := by decide
theorem nI_e0 {a : Nat} (h : a < 2 ^ 31) : nI a = 0 ↔ a = 0 := by rw [← n0]; exact nI_eq h (by decide)
theorem nI_l0 {a : Nat} (h : a < 2 ^ 31) : nI a < 0 ↔ False := by rw [iff_false]; exact nI_pos h
theorem nI_g0 {a : Nat} (h : a < 2 ^ 31) : 0 < nI a ↔ 0 < a := by rw [← n0]; exact nI_ltI (by decide) h
theorem nI_s {a b : Nat} (h : b ≤ a) : nI a - nI b = nI (a - b) := pk_sub h
theorem nI_m (a b : Nat) : nI a * nI b = nI (a * b) := pk_mul a b
theorem nI_d {a d : Nat} (ha : a < 2 ^ 31) (h0 : 0 < d) (hd : d < 2 ^ 31) : nI a / nI d = nI (a / d) := pk_div ha h0 hd
/-- a truth as an int -/
def bI (p : Prop) [Decidable p] : Int32 := if p then nI 1 else nI 0
theorem bI_t {p : Prop} [Decidable p] (h : p) : bI p = nI 1 := if_pos h
theorem bI_f {p : Prop} [Decidable p] (h : ¬ p) : bI p = nI 0 := if_neg h
theorem bI_z (p : Prop) [Decidable p] : (bI p = 0 ∨ bI p = 1) ↔ True := by
  by_cases h : p
  · rw [bI_t h]; exact zr1
  · rw [bI_f h]; exact zr0
theorem bI_0 (p : Prop) [Decidable p] : bI p = 0 ↔ ¬ p := by
  by_cases h : p
  · rw [bI_t h]; exact ⟨fun z => absurd z (by decide), fun z => absurd h z⟩
  · rw [bI_f h]; exact ⟨fun _ => h, fun _ => by decide⟩
theorem bI_c {p q : Prop} [Decidable p] [Decidable q] (h : p ↔ q) : bI p = bI q := by
  by_cases hp : p
  · rw [bI_t hp, bI_t (h.mp hp)]
  · rw [bI_f hp, bI_f (fun z => hp (h.mpr z))]
/-- an int is below zero, or a natural number -/
theorem i32 (x : Int32) : x < 0 ∨ ∃ j : Nat, j < 2 ^ 31 ∧ x = nI j := by
  by_cases h : x < 0
  · exact Or.inl h
  · exact Or.inr (nI_of h)
theorem i32_le {x : Int32} (h : x < 0) {n : Nat} (hn : n < 2 ^ 31) : ¬ nI n ≤ x := fun z => by
  have h1 := Int32.le_iff_toInt_le.mp z
  have h2 := Int32.lt_iff_toInt_lt.mp h
  rw [nI_toInt hn] at h1
  simp at h2
  omega
theorem i32_lt {x : Int32} (h : x < 0) {n : Nat} (hn : n < 2 ^ 31) : x < nI n := by
  rcases Int32.lt_or_le x (nI n) with z | z
  · exact z
  · exact absurd z (i32_le h hn)
theorem i32_ne {x : Int32} (h : x < 0) {n : Nat} (hn : n < 2 ^ 31) : ¬ x = nI n := fun z => by
  rw [z] at h
  exact nI_pos hn h
/-! programs: n instructions, c i w is part w (0 kind, 1 target, 2 second, 3 third, 4 guard) of instruction i -/
def nif (c : Nat → Nat → Nat) : Nat → Nat
  | 0 => 0
  | i + 1 => nif c i + if c i 0 = 5 then 1 else 0
/-- where the j-th if is -/
def ipl (c : Nat → Nat → Nat) : Nat → Nat → Nat
  | 0, _ => 0
  | i + 1, j => if c i 0 = 5 ∧ nif c i = j then i else ipl c i j
theorem nif_mono {c : Nat → Nat → Nat} {a b : Nat} (h : a ≤ b) : nif c a ≤ nif c b := by
  induction h with
  | refl => exact Nat.le_refl _
  | step _ ih => exact Nat.le_trans ih (by rw [nif]; omega)
theorem nif_lt {c : Nat → Nat → Nat} {i n : Nat} (h : i < n) (hk : c i 0 = 5) : nif c i < nif c n := by
  have h1 : nif c (i + 1) ≤ nif c n := nif_mono h
  rw [nif, if_pos hk] at h1
  omega
theorem nif_le (c : Nat → Nat → Nat) : ∀ n, nif c n ≤ n
  | 0 => Nat.le_refl 0
  | n + 1 => by
    have := nif_le c n
    rw [nif]
    split <;> omega
theorem nif_cong {c d : Nat → Nat → Nat} {n : Nat} (h : ∀ i, i < n → c i 0 = d i 0) : nif c n = nif d n := by
  induction n with
  | zero => rfl
  | succ n ih => rw [nif, nif, ih (fun i hi => h i (by omega)), h n (by omega)]
theorem ipl_spec {c : Nat → Nat → Nat} {j : Nat} : ∀ {n : Nat}, j < nif c n → ipl c n j < n ∧ c (ipl c n j) 0 = 5 ∧ nif c (ipl c n j) = j
  | 0, h => absurd h (Nat.not_lt_zero j)
  | n + 1, h => by
    rw [ipl]
    split
    · rename_i hc
      exact ⟨Nat.lt_succ_self n, hc.1, hc.2⟩
    · rename_i hc
      have h2 : j < nif c n := by
        rw [nif] at h
        split at h
        · rename_i hk
          have : nif c n ≠ j := fun z => hc ⟨hk, z⟩
          omega
        · omega
      have := ipl_spec (n := n) h2
      exact ⟨by omega, this.2⟩
theorem ipl_at {c : Nat → Nat → Nat} {i n : Nat} (h : i < n) (hk : c i 0 = 5) : ipl c n (nif c i) = i := by
  have h1 := ipl_spec (nif_lt h hk)
  rcases Nat.lt_trichotomy (ipl c n (nif c i)) i with z | z | z
  · have := nif_lt z h1.2.1
    omega
  · exact z
  · have := nif_lt z hk
    omega
theorem ipl_mono {c : Nat → Nat → Nat} {i j n : Nat} (h : i < j) (hj : j < nif c n) : ipl c n i < ipl c n j := by
  have h1 := ipl_spec (n := n) (c := c) (j := i) (by omega)
  have h2 := ipl_spec hj
  rcases Nat.lt_or_ge (ipl c n i) (ipl c n j) with z | z
  · exact z
  · have := nif_mono (c := c) z
    omega
/-- yes before no: what is under a yes comes before all that is under its no -/
def OG (c : Nat → Nat → Nat) (i : Nat) : Prop := c i 4 % 2 = 1 → ∀ k, k < i → c k 4 ≠ c i 4 + 1
theorem OG.cg {c d : Nat → Nat → Nat} {i : Nat} (h : OG c i) (e : ∀ k, k ≤ i → d k 4 = c k 4) : OG d i := by
  intro h1 k hk
  rw [e i (Nat.le_refl i)] at h1 ⊢
  rw [e k (Nat.le_of_lt hk)]
  exact h h1 k hk
/-- what a program is -/
def PV (n : Nat) (c : Nat → Nat → Nat) (ws : Nat → Nat) (ou : Nat) : Prop :=
  n ≤ 24 ∧ nif c n ≤ 6 ∧ ou ≤ 255 ∧ (∀ i, i < n → c i 0 ≤ 5 ∧ c i 1 ≤ 7 ∧ c i 2 ≤ (if c i 0 = 0 then 99 else if c i 0 = 5 then 10 else 7) ∧ c i 3 ≤ 7 ∧ c i 4 ≤ 2 * nif c i ∧ OG c i) ∧ ∀ j, j < nif c n → ws j ≤ 2
/-- the class's Program at P holds it -/
def XP (F A : Nat → Nat → Int32) (P n : Nat) (c : Nat → Nat → Nat) (ws : Nat → Nat) (ou : Nat) : Prop :=
  F P 7 = nI n ∧ F P 8 = nI (nif c n) ∧ F P 9 = nI ou ∧ (∀ i, i < n → A (P + 1) i = nI (c i 0) ∧ A (P + 2) i = nI (c i 1) ∧ A (P + 3) i = nI (c i 2) ∧ A (P + 4) i = nI (c i 3) ∧ A (P + 5) i = nI (c i 4)) ∧ (∀ j, j < nif c n → A (P + 6) j = nI (ipl c n j)) ∧ ∀ j, j < nif c n → A (P + 7) j = nI (ws j)
/-- the reference's rows hold it -/
def M0 (a : Nat → Int32) (n : Nat) (c : Nat → Nat → Nat) (ws : Nat → Nat) (ou : Nat) : Prop :=
  a 120 = nI n ∧ a 121 = nI ou ∧ (∀ i, i < n → ∀ w, w < 5 → a (5 * i + w) = nI (c i w)) ∧ ∀ j, j < nif c n → a (122 + j) = nI (ws j)
theorem PV.b {n : Nat} {c : Nat → Nat → Nat} {ws : Nat → Nat} {ou i : Nat} (h : PV n c ws ou) (hi : i < n) : c i 0 ≤ 5 ∧ c i 1 ≤ 7 ∧ c i 2 ≤ 99 ∧ c i 3 ≤ 7 ∧ c i 4 ≤ 2 * nif c i ∧ c i 4 ≤ 12 ∧ nif c i ≤ nif c n := by
  obtain ⟨h1, h2, h3, h4, -⟩ := h
  obtain ⟨g1, g2, g3, g4, g5, -⟩ := h4 i hi
  have g6 : nif c i ≤ nif c n := nif_mono (Nat.le_of_lt hi)
  refine ⟨g1, g2, ?_, g4, g5, by omega, g6⟩
  split at g3
  · exact g3
  · split at g3 <;> omega
/-- a guard's parent -/
def par (c : Nat → Nat → Nat) (n g : Nat) : Nat := c (ipl c n ((g - 1) / 2)) 4
theorem par_lt {n : Nat} {c : Nat → Nat → Nat} {ws : Nat → Nat} {ou g : Nat} (h : PV n c ws ou) (h0 : 0 < g) (hg : g ≤ 2 * nif c n) : par c n g ≤ 2 * ((g - 1) / 2) ∧ par c n g < g ∧ par c n g ≤ 2 * nif c n ∧ ipl c n ((g - 1) / 2) < n := by
  have hj : (g - 1) / 2 < nif c n := by omega
  obtain ⟨h1, h2, h3⟩ := ipl_spec hj
  have h4 := (h.b h1).2.2.2.2.1
  rw [h3] at h4
  unfold par
  omega
/-- how deep a guard is: steps to guard 0, by fuel -/
def dep (c : Nat → Nat → Nat) (n : Nat) : Nat → Nat → Nat
  | 0, _ => 0
  | k + 1, g => if g = 0 then 0 else dep c n k (par c n g) + 1
/-- sums from i on, k of them -/
def sumF (f : Nat → Nat) : Nat → Nat → Nat
  | _, 0 => 0
  | i, k + 1 => f i + sumF f (i + 1) k
theorem sumF_cong {f g : Nat → Nat} : ∀ {k i : Nat}, (∀ j, i ≤ j → j < i + k → f j = g j) → sumF f i k = sumF g i k
  | 0, _, _ => rfl
  | k + 1, i, h => by
    rw [sumF, sumF, h i (Nat.le_refl i) (by omega), sumF_cong (fun j h1 h2 => h j (by omega) (by omega))]
theorem sumF_le {f : Nat → Nat} {b : Nat} : ∀ {k i : Nat}, (∀ j, i ≤ j → j < i + k → f j ≤ b) → sumF f i k ≤ k * b
  | 0, _, _ => by simp [sumF]
  | k + 1, i, h => by
    have h1 := h i (Nat.le_refl i) (by omega)
    have h2 := sumF_le (f := f) (b := b) (k := k) (i := i + 1) (fun j h1 h2 => h j (by omega) (by omega))
    rw [sumF, Nat.succ_mul]
    omega
theorem sumF_add (f g : Nat → Nat) : ∀ k i, sumF (fun j => f j + g j) i k = sumF f i k + sumF g i k
  | 0, _ => rfl
  | k + 1, i => by
    rw [sumF, sumF, sumF, sumF_add f g k (i + 1)]
    omega
theorem sumF_split (f : Nat → Nat) : ∀ a i b, sumF f i (a + b) = sumF f i a + sumF f (i + a) b
  | 0, i, b => by simp [sumF]
  | a + 1, i, b => by
    rw [show a + 1 + b = (a + b) + 1 by omega, sumF, sumF, sumF_split f a (i + 1) b, show i + 1 + a = i + (a + 1) by omega]
    omega
theorem sumF_last (f : Nat → Nat) (k i : Nat) : sumF f i (k + 1) = sumF f i k + f (i + k) := by
  rw [sumF_split f k i 1]
  simp [sumF]
theorem nif_sum (c : Nat → Nat → Nat) : ∀ n, nif c n = sumF (fun i => if c i 0 = 5 then 1 else 0) 0 n
  | 0 => rfl
  | n + 1 => by rw [nif, sumF_last, nif_sum c n, Nat.zero_add]
/-- the first from i on, k of them, for which p holds -/
def fstF (p : Nat → Bool) : Nat → Nat → Option Nat
  | _, 0 => none
  | i, k + 1 => if p i then some i else fstF p (i + 1) k
theorem fstF_cong {p q : Nat → Bool} : ∀ {k i : Nat}, (∀ j, i ≤ j → j < i + k → p j = q j) → fstF p i k = fstF q i k
  | 0, _, _ => rfl
  | k + 1, i, h => by
    rw [fstF, fstF, h i (Nat.le_refl i) (by omega), fstF_cong (fun j h1 h2 => h j (by omega) (by omega))]
theorem fstF_some {p : Nat → Bool} : ∀ {k i x : Nat}, fstF p i k = some x → i ≤ x ∧ x < i + k ∧ p x = true ∧ ∀ j, i ≤ j → j < x → p j = false
  | 0, _, _, h => by cases h
  | k + 1, i, x, h => by
    rw [fstF] at h
    split at h
    · cases h
      rename_i hp
      exact ⟨Nat.le_refl i, by omega, hp, fun j h1 h2 => absurd h2 (by omega)⟩
    · rename_i hp
      obtain ⟨h1, h2, h3, h4⟩ := fstF_some h
      refine ⟨by omega, by omega, h3, fun j g1 g2 => ?_⟩
      by_cases e : j = i
      · rw [e]; simpa using hp
      · exact h4 j (by omega) g2
theorem fstF_none {p : Nat → Bool} : ∀ {k i : Nat}, fstF p i k = none → ∀ j, i ≤ j → j < i + k → p j = false
  | 0, _, _, j, h1, h2 => absurd h2 (by omega)
  | k + 1, i, h, j, h1, h2 => by
    rw [fstF] at h
    split at h
    · cases h
    · rename_i hp
      by_cases e : j = i
      · rw [e]; simpa using hp
      · exact fstF_none h j (by omega) (by omega)
/-- an answer that may be NONE -/
def oI (x : Option Nat) : Int32 := match x with
  | none => (-4)
  | some k => nI k
/-- whether guard g is within guard h -/
def wit (c : Nat → Nat → Nat) (n : Nat) : Nat → Nat → Nat → Bool
  | 0, g, h => g == h
  | k + 1, g, h => if g = h then true else if g = 0 then false else wit c n k (par c n g) h
theorem wit_self (c : Nat → Nat → Nat) (n k g : Nat) : wit c n k g g = true := by cases k <;> simp [wit]
def maxF (f : Nat → Nat) : Nat → Nat → Nat → Nat
  | _, 0, a => a
  | i, k + 1, a => maxF f (i + 1) k (if a < f i then f i else a)
theorem maxF_le {f : Nat → Nat} {b : Nat} (hf : ∀ i, f i ≤ b) : ∀ k i a, a ≤ b → maxF f i k a ≤ b
  | 0, _, a, h => h
  | k + 1, i, a, h => maxF_le hf k (i + 1) _ (by have := hf i; split <;> omega)
theorem dep_le (c : Nat → Nat → Nat) (n : Nat) : ∀ k g, dep c n k g ≤ k
  | 0, _ => Nat.le_refl 0
  | k + 1, g => by
    have := dep_le c n k (par c n g)
    rw [dep]
    split <;> omega
theorem shl1 {k : Nat} (h : k < 31) : nI 1 <<< (nI k &&& 31) = nI (2 ^ k) := by
  rw [show (31 : Int32) = nI 31 by decide]
  have : ∀ k : Nat, k < 31 → nI 1 <<< (nI k &&& nI 31) = nI (2 ^ k) := by decide +kernel
  exact this k h
theorem fa_and (a b : Nat) : nI a &&& nI b = nI (a &&& b) := by
  apply Int32.toBitVec_inj.1
  show BitVec.ofNat 32 a &&& BitVec.ofNat 32 b = BitVec.ofNat 32 (a &&& b)
  apply BitVec.eq_of_getLsbD_eq
  intro i hi
  simp [hi]
theorem fa_or (a b : Nat) : nI a ||| nI b = nI (a ||| b) := by
  apply Int32.toBitVec_inj.1
  show BitVec.ofNat 32 a ||| BitVec.ofNat 32 b = BitVec.ofNat 32 (a ||| b)
  apply BitVec.eq_of_getLsbD_eq
  intro i hi
  simp [hi]
theorem and31 : ∀ k : Nat, k < 32 → nI k &&& 31 = nI k := by decide +kernel
theorem smod31 : ∀ k : Nat, k < 32 → ((nI k).toBitVec.smod 32).toNat = k := by decide +kernel
theorem shrN {m k : Nat} (hm : m < 2 ^ 31) (hk : k < 32) : nI m >>> (nI k &&& 31) = nI (m / 2 ^ k) := by
  rw [and31 k hk]
  exact pk_shrN hm (nI k) k (smod31 k hk)
theorem bit_at {m k : Nat} (hm : m < 2 ^ 31) (hk : k < 32) : (nI m >>> (nI k &&& 31)) &&& nI 1 = nI (if m.testBit k then 1 else 0) := by
  rw [shrN hm hk, fa_and, Nat.and_one_is_mod]
  congr 1
  rw [Nat.testBit_eq_decide_div_mod_eq]
  have : m / 2 ^ k % 2 < 2 := Nat.mod_lt _ (by decide)
  by_cases h : m / 2 ^ k % 2 = 1
  · simp [h]
  · simp [h]; omega
/-- the greatest that a part may be -/
def most (kd : Nat) (w : Int32) : Int32 := if w = nI 1 then nI 7 else if w = nI 2 ∧ kd = 0 then nI 99 else if w = nI 2 ∧ kd = 5 then nI 10 else if (w = nI 2 ∨ w = nI 3) ∧ 1 ≤ kd ∧ kd ≤ 4 then nI 7 else (-4)
def mayC (n : Nat) (c : Nat → Nat → Nat) (i w v : Int32) : Prop := (¬ i < 0 ∧ i < nI n) ∧ ¬ v < 0 ∧ v ≤ most (c i.toNatClampNeg 0) w

theorem lg_lt (x y : Int64) : lg_cmp x y < 0 ↔ x < y := by
  have := lg_cmp_ge x y
  rw [← Int32.not_le, this, Int64.not_le]
theorem lg_gt (x y : Int64) : 0 < lg_cmp x y ↔ y < x := by
  unfold lg_cmp
  by_cases h : x > y
  · rw [if_pos h]; exact ⟨fun _ => h, fun _ => by decide⟩
  · rw [if_neg h]
    refine ⟨fun z => ?_, fun z => absurd z h⟩
    split at z
    · exact absurd z (by decide)
    · exact absurd z (by decide)
theorem w64lt (a b : Int32) : a.toInt64 < b.toInt64 ↔ a < b := by rw [Int64.lt_iff_toInt_lt, Int32.lt_iff_toInt_lt, Int32.toInt_toInt64, Int32.toInt_toInt64]
theorem w64le (a b : Int32) : a.toInt64 ≤ b.toInt64 ↔ a ≤ b := by rw [Int64.le_iff_toInt_le, Int32.le_iff_toInt_le, Int32.toInt_toInt64, Int32.toInt_toInt64]
theorem w64N {k : Nat} (h : k < 2 ^ 31) : lN k = (nI k).toInt64 := (nI_l h).symm
theorem in_n {x : Int32} {n : Nat} (h : n < 2 ^ 30) : (¬ x < 0 ∧ x ≤ nI n - nI 1) ↔ (¬ x < 0 ∧ x < nI n) := by
  have e := pk_sub_toInt (a := n) (b := 1) h (by decide)
  rw [Int32.le_iff_toInt_le, Int32.lt_iff_toInt_lt (y := nI n), e, nI_toInt (by omega)]
  constructor
  · rintro ⟨h1, h2⟩; exact ⟨h1, by omega⟩
  · rintro ⟨h1, h2⟩; exact ⟨h1, by omega⟩
theorem in_le {x : Int32} {n : Nat} (h : n + 1 < 2 ^ 31) : (¬ x < 0 ∧ x ≤ nI n) ↔ (¬ x < 0 ∧ x < nI (n + 1)) := by
  rw [Int32.le_iff_toInt_le, Int32.lt_iff_toInt_lt (y := nI (n + 1)), nI_toInt (by omega), nI_toInt h]
  constructor
  · rintro ⟨h1, h2⟩; exact ⟨h1, by omega⟩
  · rintro ⟨h1, h2⟩; exact ⟨h1, by omega⟩
theorem byteN : ∀ b : Nat, b < 128 → (nI b).toInt8.toInt32 = nI b := by decide +kernel
theorem narB {b : Nat} (h : b < 128) : vp_nar .byte (nI b) = nI b := by rw [vp_nar_byte, byteN b h]
theorem narZ0 : vp_nar .boolean (nI 0) = nI 0 := by decide
theorem narZ1 : vp_nar .boolean (nI 1) = nI 1 := by decide
theorem narZb (p : Prop) [Decidable p] : vp_nar .boolean (bI p) = bI p := by
  by_cases h : p
  · rw [bI_t h]; exact narZ1
  · rw [bI_f h]; exact narZ0
/-- an int within bounds, or not -/
theorem iin (x : Int32) (n : Nat) (hn : n < 2 ^ 31) : (∃ j : Nat, j < n ∧ x = nI j) ∨ ¬ (¬ x < 0 ∧ x < nI n) := by
  by_cases h : ¬ x < 0 ∧ x < nI n
  · obtain ⟨j, hj, rfl⟩ := nI_of h.1
    exact Or.inl ⟨j, (nI_ltI hj hn).mp h.2, rfl⟩
  · exact Or.inr h
theorem ge0n (x : Int32) : nI 0 ≤ x ↔ ¬ x < 0 := by rw [n0, Int32.not_lt]

/-! FLAT: what stands within a guard, summed, is the sum of the FLATS right under it -/
theorem sumF_mul (x : Nat) (f : Nat → Nat) : ∀ k i, sumF (fun j => x * f j) i k = x * sumF f i k
  | 0, _ => by simp [sumF]
  | k + 1, i => by rw [sumF, sumF, sumF_mul x f k (i + 1), Nat.mul_add]
theorem sumF_zero {f : Nat → Nat} : ∀ {k i : Nat}, (∀ j, i ≤ j → j < i + k → f j = 0) → sumF f i k = 0
  | 0, _, _ => rfl
  | k + 1, i, h => by rw [sumF, h i (Nat.le_refl i) (by omega), sumF_zero (fun j h1 h2 => h j (by omega) (by omega))]
theorem sumF_comm (f : Nat → Nat → Nat) (b m : Nat) : ∀ k i, sumF (fun j => sumF (fun l => f j l) b m) i k = sumF (fun l => sumF (fun j => f j l) i k) b m
  | 0, i => by
    rw [sumF]
    exact (sumF_zero (fun j _ _ => rfl)).symm
  | k + 1, i => by
    rw [sumF, sumF_comm f b m k (i + 1), ← sumF_add]
    rfl
theorem sumF_single {f : Nat → Nat} {x : Nat} : ∀ {k i : Nat}, i ≤ x → x < i + k → (∀ j, i ≤ j → j < i + k → j ≠ x → f j = 0) → sumF f i k = f x
  | 0, i, h1, h2, _ => absurd h2 (by omega)
  | k + 1, i, h1, h2, h => by
    rw [sumF]
    by_cases e : i = x
    · subst e
      rw [sumF_zero (fun j g1 g2 => h j (by omega) (by omega) (by omega))]
      omega
    · rw [h i (Nat.le_refl i) (by omega) e, sumF_single (i := i + 1) (by omega) (by omega) (fun j g1 g2 g3 => h j (by omega) (by omega) g3)]
      omega
def b1 (p : Prop) [Decidable p] : Nat := if p then 1 else 0
theorem b1_t {p : Prop} [Decidable p] (h : p) : b1 p = 1 := if_pos h
theorem b1_f {p : Prop} [Decidable p] (h : ¬ p) : b1 p = 0 := if_neg h
theorem b1_mul {p : Prop} [Decidable p] (x : Nat) : (if p then x else 0) = b1 p * x := by
  by_cases h : p
  · rw [if_pos h, b1_t h, Nat.one_mul]
  · rw [if_neg h, b1_f h, Nat.zero_mul]
theorem wit_le (c : Nat → Nat → Nat) {n ou : Nat} {ws : Nat → Nat} (hv : PV n c ws ou) : ∀ k g x, g ≤ 2 * nif c n → wit c n k g x = true → x ≤ g
  | 0, g, x, _, h => by
    rw [wit] at h
    have := eq_of_beq h
    omega
  | k + 1, g, x, hg, h => by
    rw [wit] at h
    by_cases e : g = x
    · omega
    · rw [if_neg e] at h
      by_cases e0 : g = 0
      · rw [if_pos e0] at h; cases h
      · rw [if_neg e0] at h
        have hp := par_lt hv (by omega) hg
        have := wit_le c hv k (par c n g) x hp.2.2.1 h
        omega
theorem wit_fuel {n ou : Nat} {c : Nat → Nat → Nat} {ws : Nat → Nat} (hv : PV n c ws ou) (x : Nat) : ∀ k g, g ≤ 2 * nif c n → (g + 1) / 2 ≤ k → wit c n (k + 1) g x = wit c n k g x
  | 0, g, hg, hk => by
    have : g = 0 := by omega
    subst this
    rw [wit, wit]
    by_cases e : 0 = x
    · simp [e]
    · simp [e]
  | k + 1, g, hg, hk => by
    rw [wit]
    conv => rhs; rw [wit]
    by_cases e : g = x
    · rw [if_pos e, if_pos e]
    · rw [if_neg e, if_neg e]
      by_cases e0 : g = 0
      · rw [if_pos e0, if_pos e0]
      · have hp := par_lt hv (by omega) hg
        rw [if_neg e0, if_neg e0, wit_fuel hv x k (par c n g) hp.2.2.1 (by omega)]
theorem wit_0 (c : Nat → Nat → Nat) (n x : Nat) : wit c n 6 0 x = decide (0 = x) := by
  rw [wit]
  by_cases e : 0 = x
  · simp [e]
  · simp [e]
theorem wit_step {n ou : Nat} {c : Nat → Nat → Nat} {ws : Nat → Nat} (hv : PV n c ws ou) {g : Nat} (h0 : 0 < g) (hg : g ≤ 2 * nif c n) (x : Nat) : b1 (wit c n 6 g x = true) = b1 (g = x) + b1 (wit c n 6 (par c n g) x = true) := by
  have hn6 := hv.2.1
  have hp := par_lt hv h0 hg
  have e1 : wit c n 6 g x = if g = x then true else wit c n 6 (par c n g) x := by
    rw [← wit_fuel hv x 6 g hg (by omega), wit]
    by_cases e : g = x
    · rw [if_pos e, if_pos e]
    · rw [if_neg e, if_neg e, if_neg (by omega)]
  rw [e1]
  by_cases e : g = x
  · have h2 : ¬ wit c n 6 (par c n g) x = true := fun z => by
      have := wit_le c hv 6 _ _ hp.2.2.1 z
      omega
    rw [if_pos e, b1_t rfl, b1_t e, b1_f h2]
  · rw [if_neg e, b1_f e, Nat.zero_add]
/-- sums of costs under a guard, with all that is within -/
def fS (c : Nat → Nat → Nat) (n : Nat) (κ : Nat → Nat) : Nat → Nat → Nat
  | 0, _ => 0
  | d + 1, g => sumF (fun k => if c k 4 = g then κ k + (if c k 0 = 5 then fS c n κ d (2 * nif c k + 1) + fS c n κ d (2 * nif c k + 2) else 0) else 0) 0 n
section FLAT
variable {n ou : Nat} {c : Nat → Nat → Nat} {ws : Nat → Nat}
theorem one_if (hv : PV n c ws ou) {g g' : Nat} (h0 : 0 < g') (hg : g' ≤ 2 * nif c n) : sumF (fun k => b1 (c k 4 = g ∧ c k 0 = 5) * (b1 (g' = 2 * nif c k + 1) + b1 (g' = 2 * nif c k + 2))) 0 n = b1 (par c n g' = g) := by
  have hj : (g' - 1) / 2 < nif c n := by omega
  obtain ⟨h1, h2, h3⟩ := ipl_spec hj
  rw [sumF_single (x := ipl c n ((g' - 1) / 2)) (Nat.zero_le _) (by omega) (fun k _ hk hne => ?_)]
  · have e1 : b1 (g' = 2 * nif c (ipl c n ((g' - 1) / 2)) + 1) + b1 (g' = 2 * nif c (ipl c n ((g' - 1) / 2)) + 2) = 1 := by
      rw [h3]
      by_cases e : g' = 2 * ((g' - 1) / 2) + 1
      · rw [b1_t e, b1_f (by omega)]
      · rw [b1_f e, b1_t (by omega)]
    rw [e1, Nat.mul_one]
    unfold par
    by_cases e : c (ipl c n ((g' - 1) / 2)) 4 = g
    · rw [b1_t ⟨e, h2⟩, b1_t e]
    · rw [b1_f (fun z => e z.1), b1_f e]
  · by_cases e : c k 4 = g ∧ c k 0 = 5
    · have hkn : k < n := by omega
      have hne2 : nif c k ≠ (g' - 1) / 2 := fun z => hne (by rw [← z]; exact (ipl_at hkn e.2).symm)
      rw [b1_f (p := g' = 2 * nif c k + 1) (by omega), b1_f (p := g' = 2 * nif c k + 2) (by omega)]
      omega
    · rw [b1_f e, Nat.zero_mul]
theorem wit_sum (hv : PV n c ws ou) (g : Nat) : ∀ g', g' ≤ 2 * nif c n → b1 (wit c n 6 g' g = true) = b1 (g' = g) + sumF (fun k => b1 (c k 4 = g ∧ c k 0 = 5) * (b1 (wit c n 6 g' (2 * nif c k + 1) = true) + b1 (wit c n 6 g' (2 * nif c k + 2) = true))) 0 n := by
  intro g'
  induction g' using Nat.strongRecOn with
  | _ g' ih =>
    intro hg
    by_cases e0 : g' = 0
    · subst e0
      rw [sumF_zero (fun k _ _ => ?_), wit_0]
      · simp [b1]
      · rw [wit_0, wit_0, b1_f (p := decide (0 = 2 * nif c k + 1) = true) (by simp), b1_f (p := decide (0 = 2 * nif c k + 2) = true) (by simp), Nat.mul_zero]
    · have hp := par_lt hv (by omega) hg
      have h1 := ih (par c n g') hp.2.1 hp.2.2.1
      rw [wit_step hv (by omega) hg g, h1]
      congr 1
      rw [← one_if hv (g := g) (by omega) hg, ← sumF_add]
      refine sumF_cong (fun k _ hk => ?_)
      rw [wit_step hv (by omega) hg (2 * nif c k + 1), wit_step hv (by omega) hg (2 * nif c k + 2), ← Nat.mul_add]
      congr 1
      omega
theorem fS_wit (hv : PV n c ws ou) (κ : Nat → Nat) : ∀ d g, g ≤ 2 * nif c n → nif c n + 1 ≤ d + (g + 1) / 2 → fS c n κ d g = sumF (fun k => b1 (wit c n 6 (c k 4) g = true) * κ k) 0 n
  | 0, g, hg, hd => absurd hd (by omega)
  | d + 1, g, hg, hd => by
    have e1 : fS c n κ (d + 1) g = sumF (fun k => b1 (c k 4 = g) * κ k + sumF (fun l => b1 (c k 4 = g ∧ c k 0 = 5) * (b1 (wit c n 6 (c l 4) (2 * nif c k + 1) = true) + b1 (wit c n 6 (c l 4) (2 * nif c k + 2) = true)) * κ l) 0 n) 0 n := by
      rw [fS]
      refine sumF_cong (fun k _ hk => ?_)
      have hkn : k < n := by omega
      have hb := hv.b hkn
      by_cases eg : c k 4 = g
      · rw [if_pos eg, b1_t eg, Nat.one_mul]
        congr 1
        by_cases e5 : c k 0 = 5
        · have hlt := nif_lt hkn e5
          rw [if_pos e5, fS_wit hv κ d (2 * nif c k + 1) (by omega) (by omega), fS_wit hv κ d (2 * nif c k + 2) (by omega) (by omega), ← sumF_add]
          refine sumF_cong (fun l _ _ => ?_)
          rw [b1_t (p := c k 4 = g ∧ c k 0 = 5) ⟨eg, e5⟩, Nat.one_mul, Nat.add_mul]
        · rw [if_neg e5, sumF_zero (fun l _ _ => by rw [b1_f (fun z => e5 z.2), Nat.zero_mul, Nat.zero_mul])]
      · rw [if_neg eg, b1_f eg, Nat.zero_mul, Nat.zero_add, sumF_zero (fun l _ _ => by rw [b1_f (fun z => eg z.1), Nat.zero_mul, Nat.zero_mul])]
    rw [e1, sumF_add, sumF_comm, ← sumF_add]
    refine sumF_cong (fun l _ hl => ?_)
    have hln : l < n := by omega
    have hb := hv.b hln
    rw [wit_sum hv g (c l 4) (by omega), Nat.add_mul]
    congr 1
    rw [Nat.mul_comm, ← sumF_mul]
    refine sumF_cong (fun k _ _ => ?_)
    rw [Nat.mul_comm]
/-- the equations -/
def fG (c : Nat → Nat → Nat) (n : Nat) (κ : Nat → Nat) (g : Nat) : Nat := sumF (fun k => b1 (wit c n 6 (c k 4) g = true) * κ k) 0 n
def fL (c : Nat → Nat → Nat) (n : Nat) (κ : Nat → Nat) (k : Nat) : Nat := κ k + (if c k 0 = 5 then fG c n κ (2 * nif c k + 1) + fG c n κ (2 * nif c k + 2) else 0)
theorem fG_eq (hv : PV n c ws ou) (κ : Nat → Nat) {g : Nat} (hg : g ≤ 2 * nif c n) : fG c n κ g = sumF (fun k => if c k 4 = g then fL c n κ k else 0) 0 n := by
  have hn6 := hv.2.1
  rw [fG, ← fS_wit hv κ (nif c n + 1) g hg (by omega), fS]
  refine sumF_cong (fun k _ hk => ?_)
  have hkn : k < n := by omega
  have hb := hv.b hkn
  by_cases eg : c k 4 = g
  · rw [if_pos eg, if_pos eg, fL]
    congr 1
    by_cases e5 : c k 0 = 5
    · have hlt := nif_lt hkn e5
      rw [if_pos e5, if_pos e5, fS_wit hv κ (nif c n) (2 * nif c k + 1) (by omega) (by omega), fS_wit hv κ (nif c n) (2 * nif c k + 2) (by omega) (by omega)]
      rfl
    · rw [if_neg e5, if_neg e5]
  · rw [if_neg eg, if_neg eg]
theorem fG_0 (κ : Nat → Nat) (hv : PV n c ws ou) : fG c n κ 0 = sumF κ 0 n := by
  unfold fG
  refine sumF_cong (fun k _ hk => ?_)
  have hb := hv.b (show k < n by omega)
  have : ∀ g, g ≤ 2 * nif c n → wit c n 6 g 0 = true := by
    intro g
    induction g using Nat.strongRecOn with
    | _ g ih =>
      intro hg
      by_cases e0 : g = 0
      · subst e0; rw [wit_0]; rfl
      · have hp := par_lt hv (by omega) hg
        have h1 := wit_step hv (by omega) hg 0
        rw [b1_f e0, b1_t (ih _ hp.2.1 hp.2.2.1)] at h1
        by_cases z : wit c n 6 g 0 = true
        · exact z
        · rw [b1_f z] at h1; omega
  rw [b1_t (this _ (by omega)), Nat.one_mul]
theorem fG_le (κ : Nat → Nat) (g : Nat) : fG c n κ g ≤ sumF κ 0 n := by
  have : ∀ k i, sumF (fun k => b1 (wit c n 6 (c k 4) g = true) * κ k) i k ≤ sumF κ i k := by
    intro k
    induction k with
    | zero => intro i; exact Nat.le_refl 0
    | succ k ih =>
      intro i
      rw [sumF, sumF]
      have h1 := ih (i + 1)
      have h2 : b1 (wit c n 6 (c i 4) g = true) * κ i ≤ κ i := by
        by_cases z : wit c n 6 (c i 4) g = true
        · rw [b1_t z]; omega
        · rw [b1_f z]; omega
      omega
  exact this n 0
end FLAT

/-! MEAN, in millionths -/
def kap (c : Nat → Nat → Nat) (k : Nat) : Nat := if c k 0 = 4 then 4 else 1
def kp4 (c : Nat → Nat → Nat) (k : Nat) : Nat := if c k 0 = 4 ∨ c k 0 = 5 then 4 else 1
/-- what an if costs in the mean if it is jumped -/
def jum (c : Nat → Nat → Nat) (k y z : Nat) : Nat := 4000000 + (y * c k 2 + z * (10 - c k 2)) / 10
/-- whether an if would be guarded by its wish alone -/
def alo (c : Nat → Nat → Nat) (n : Nat) (ws : Nat → Nat) (k y z : Nat) : Bool := decide (ws (nif c k) = 1 ∨ (ws (nif c k) = 2 ∧ 1000000 * fL c n (kap c) k ≤ jum c k y z))
def mIf (c : Nat → Nat → Nat) (n : Nat) (ws : Nat → Nat) (k y z : Nat) : Nat := if alo c n ws k y z = true then 1000000 * fL c n (kap c) k else jum c k y z
def mS (c : Nat → Nat → Nat) (n : Nat) (ws : Nat → Nat) : Nat → Nat → Nat
  | 0, _ => 0
  | d + 1, g => sumF (fun k => if c k 4 = g then (if c k 0 = 5 then mIf c n ws k (mS c n ws d (2 * nif c k + 1)) (mS c n ws d (2 * nif c k + 2)) else 1000000 * kap c k) else 0) 0 n
def mG (c : Nat → Nat → Nat) (n : Nat) (ws : Nat → Nat) (g : Nat) : Nat := mS c n ws (nif c n + 1) g
def mK (c : Nat → Nat → Nat) (n : Nat) (ws : Nat → Nat) (k : Nat) : Nat := if c k 0 = 5 then mIf c n ws k (mG c n ws (2 * nif c k + 1)) (mG c n ws (2 * nif c k + 2)) else 1000000 * kap c k
def alK (c : Nat → Nat → Nat) (n : Nat) (ws : Nat → Nat) (k : Nat) : Bool := alo c n ws k (mG c n ws (2 * nif c k + 1)) (mG c n ws (2 * nif c k + 2))
section MEAN
variable {n ou : Nat} {c : Nat → Nat → Nat} {ws : Nat → Nat}
theorem mS_fuel (hv : PV n c ws ou) : ∀ d g, g ≤ 2 * nif c n → nif c n + 1 ≤ d + (g + 1) / 2 → mS c n ws (d + 1) g = mS c n ws d g
  | 0, g, hg, hd => absurd hd (by omega)
  | d + 1, g, hg, hd => by
    rw [mS]
    conv => rhs; rw [mS]
    refine sumF_cong (fun k _ hk => ?_)
    have hkn : k < n := by omega
    have hb := hv.b hkn
    by_cases eg : c k 4 = g
    · rw [if_pos eg, if_pos eg]
      by_cases e5 : c k 0 = 5
      · have hlt := nif_lt hkn e5
        rw [if_pos e5, if_pos e5, mS_fuel hv d (2 * nif c k + 1) (by omega) (by omega), mS_fuel hv d (2 * nif c k + 2) (by omega) (by omega)]
      · rw [if_neg e5, if_neg e5]
    · rw [if_neg eg, if_neg eg]
theorem mS_stab (hv : PV n c ws ou) {g : Nat} (hg : g ≤ 2 * nif c n) {d : Nat} (hd : nif c n + 1 ≤ d + (g + 1) / 2) (hd2 : d ≤ nif c n + 1) : mS c n ws d g = mG c n ws g := by
  unfold mG
  have : ∀ e, mS c n ws (d + e) g = mS c n ws d g := by
    intro e
    induction e with
    | zero => rfl
    | succ e ih => rw [show d + (e + 1) = (d + e) + 1 by omega, mS_fuel hv (d + e) g hg (by omega), ih]
  rw [← this (nif c n + 1 - d)]
  congr 1
  omega
theorem mG_eq (hv : PV n c ws ou) {g : Nat} (hg : g ≤ 2 * nif c n) : mG c n ws g = sumF (fun k => if c k 4 = g then mK c n ws k else 0) 0 n := by
  rw [mG, mS]
  refine sumF_cong (fun k _ hk => ?_)
  have hkn : k < n := by omega
  have hb := hv.b hkn
  by_cases eg : c k 4 = g
  · rw [if_pos eg, if_pos eg, mK]
    by_cases e5 : c k 0 = 5
    · have hlt := nif_lt hkn e5
      rw [if_pos e5, if_pos e5, mS_stab hv (g := 2 * nif c k + 1) (by omega) (by omega) (by omega), mS_stab hv (g := 2 * nif c k + 2) (by omega) (by omega) (by omega)]
    · rw [if_neg e5, if_neg e5]
  · rw [if_neg eg, if_neg eg]
theorem kap_le (c : Nat → Nat → Nat) (k : Nat) : kap c k ≤ kp4 c k ∧ kp4 c k ≤ 4 := by
  unfold kap kp4
  by_cases h : c k 0 = 4
  · rw [if_pos h, if_pos (Or.inl h)]; omega
  · rw [if_neg h]
    split <;> omega
theorem sumF_mono {f g : Nat → Nat} : ∀ {k i : Nat}, (∀ j, i ≤ j → j < i + k → f j ≤ g j) → sumF f i k ≤ sumF g i k
  | 0, _, _ => Nat.le_refl 0
  | k + 1, i, h => by
    have h1 := h i (Nat.le_refl i) (by omega)
    have h2 := sumF_mono (k := k) (i := i + 1) (fun j g1 g2 => h j (by omega) (by omega))
    rw [sumF, sumF]
    omega
theorem fG_mono {κ κ' : Nat → Nat} (h : ∀ k, κ k ≤ κ' k) (g : Nat) : fG c n κ g ≤ fG c n κ' g := sumF_mono (fun k _ _ => Nat.mul_le_mul_left _ (h k))
theorem fG_96 (hn : n ≤ 24) (g : Nat) : fG c n (kp4 c) g ≤ 96 := by
  have h1 := fG_le (c := c) (n := n) (kp4 c) g
  have h2 := sumF_le (f := kp4 c) (b := 4) (k := n) (i := 0) (fun j _ _ => (kap_le c j).2)
  omega
theorem jum_le {k y z : Nat} (ht : c k 2 ≤ 10) : jum c k y z ≤ 4000000 + y + z := by
  unfold jum
  have h1 : y * c k 2 ≤ y * 10 := Nat.mul_le_mul_left y ht
  have h2 : z * (10 - c k 2) ≤ z * 10 := Nat.mul_le_mul_left z (by omega)
  omega
theorem mIf_le (hv : PV n c ws ou) {k y z : Nat} (hk : k < n) (e5 : c k 0 = 5) (hy : y ≤ 1000000 * fG c n (kp4 c) (2 * nif c k + 1)) (hz : z ≤ 1000000 * fG c n (kp4 c) (2 * nif c k + 2)) : mIf c n ws k y z ≤ 1000000 * fL c n (kp4 c) k := by
  have ht := (hv.2.2.2.1 k hk).2.2.1
  rw [if_neg (by omega), if_pos e5] at ht
  have h1 := fG_mono (c := c) (n := n) (fun k => (kap_le c k).1) (2 * nif c k + 1)
  have h2 := fG_mono (c := c) (n := n) (fun k => (kap_le c k).1) (2 * nif c k + 2)
  have h3 := jum_le (c := c) (k := k) (y := y) (z := z) ht
  have k4 : kp4 c k = 4 := if_pos (Or.inr e5)
  have k1 : kap c k = 1 := if_neg (by omega)
  unfold mIf fL
  rw [if_pos e5, k4]
  split
  · rw [k1]
    omega
  · omega
theorem mS_le (hv : PV n c ws ou) : ∀ d g, g ≤ 2 * nif c n → nif c n + 1 ≤ d + (g + 1) / 2 → mS c n ws d g ≤ 1000000 * fG c n (kp4 c) g
  | 0, g, hg, hd => absurd hd (by omega)
  | d + 1, g, hg, hd => by
    rw [fG_eq hv (kp4 c) hg, ← sumF_mul, mS]
    refine sumF_mono (fun k _ hk => ?_)
    have hkn : k < n := by omega
    have hb := hv.b hkn
    by_cases eg : c k 4 = g
    · rw [if_pos eg, if_pos eg]
      by_cases e5 : c k 0 = 5
      · have hlt := nif_lt hkn e5
        rw [if_pos e5]
        exact mIf_le hv hkn e5 (mS_le hv d _ (by omega) (by omega)) (mS_le hv d _ (by omega) (by omega))
      · have := (kap_le c k).1
        rw [if_neg e5, fL, if_neg e5]
        omega
    · rw [if_neg eg, if_neg eg]
      omega
theorem mG_le (hv : PV n c ws ou) {g : Nat} (hg : g ≤ 2 * nif c n) : mG c n ws g ≤ 96000000 := by
  have h1 := mS_le hv (nif c n + 1) g hg (by omega)
  have h2 := fG_96 (c := c) hv.1 g
  unfold mG
  omega
theorem fL_le (hv : PV n c ws ou) (k : Nat) : fL c n (kap c) k ≤ 200 := by
  have h1 := fG_mono (c := c) (n := n) (fun k => (kap_le c k).1) (2 * nif c k + 1)
  have h2 := fG_mono (c := c) (n := n) (fun k => (kap_le c k).1) (2 * nif c k + 2)
  have h3 := fG_96 (c := c) hv.1 (2 * nif c k + 1)
  have h4 := fG_96 (c := c) hv.1 (2 * nif c k + 2)
  have h5 := kap_le c k
  unfold fL
  split <;> omega
/-- sums from an instruction on -/
def tsG (c : Nat → Nat → Nat) (n : Nat) (f : Nat → Nat) (g i : Nat) : Nat := sumF (fun k => if c k 4 = g then f k else 0) i (n - i)
theorem tsG_end (f : Nat → Nat) (g : Nat) : tsG c n f g n = 0 := by unfold tsG; rw [Nat.sub_self]; rfl
theorem tsG_step (f : Nat → Nat) (g : Nat) {i : Nat} (hi : i < n) : tsG c n f g i = (if c i 4 = g then f i else 0) + tsG c n f g (i + 1) := by
  unfold tsG
  rw [show n - i = (n - (i + 1)) + 1 by omega, sumF]
theorem tsG_all (f : Nat → Nat) (g : Nat) : tsG c n f g 0 = sumF (fun k => if c k 4 = g then f k else 0) 0 n := rfl
/-- all that is under a side of the if at i stands behind it -/
theorem tsG_side (hv : PV n c ws ou) (f : Nat → Nat) {i g : Nat} (hi : i < n) (hg : g = 2 * nif c i + 1 ∨ g = 2 * nif c i + 2) : tsG c n f g (i + 1) = sumF (fun k => if c k 4 = g then f k else 0) 0 n := by
  unfold tsG
  rw [show n = (i + 1) + (n - (i + 1)) by omega, sumF_split _ (i + 1) 0, Nat.zero_add, show i + 1 + (n - (i + 1)) - (i + 1) = n - (i + 1) by omega]
  have : sumF (fun k => if c k 4 = g then f k else 0) 0 (i + 1) = 0 := sumF_zero (fun k _ hk => by
    have hb := hv.b (show k < n by omega)
    have : nif c k ≤ nif c i := nif_mono (by omega)
    rw [if_neg (by omega)])
  omega
end MEAN

def top (d : Nat) (o : Nat → Nat) : Nat := if d = 0 then 0 else o (d - 1)
/-- the text read from p on: n instructions c so far, d sides o open -/
def prs (b : Nat → Nat) (t : Nat) : Nat → Nat → Nat → (Nat → Nat → Nat) → Nat → (Nat → Nat) → Bool × Nat × Nat × (Nat → Nat → Nat)
  | 0, _, _, c, _, _ => (false, 2, 0, c)
  | k + 1, p, n, c, d, o =>
    if tK b t p = 7 then (false, 1, tS b t p, c)
    else if tK b t p = 0 ∧ d = 0 then (true, n, 0, c)
    else if tK b t p = 1 then
      if kn b (tS b t p) (tE b t p) = 6 then (false, 2, tS b t p, c)
      else if ¬ (n < 24 ∧ (kn b (tS b t p) (tE b t p) = 5 → nif c n < 6)) then (false, 5, tS b t p, c)
      else if (stm b t (kn b (tS b t p) (tE b t p)) (tE b t p)).1 = false then (false, (stm b t (kn b (tS b t p) (tE b t p)) (tE b t p)).2.1, (stm b t (kn b (tS b t p) (tE b t p)) (tE b t p)).2.2, c)
      else prs b t k (stm b t (kn b (tS b t p) (tE b t p)) (tE b t p)).2.2 (n + 1) (up c n (rowf (kn b (tS b t p) (tE b t p)) (vr b t (tE b t p)).2.1 (r2 b t (kn b (tS b t p) (tE b t p)) (tE b t p)).2.1 (r3 b t (kn b (tS b t p) (tE b t p)) (tE b t p)).2.1 (top d o))) (if kn b (tS b t p) (tE b t p) = 5 then d + 1 else d) (if kn b (tS b t p) (tE b t p) = 5 then up o d (2 * nif c n + 1) else o)
    else if tK b t p = 125 ∧ 0 < d then
      if o (d - 1) % 2 = 1 then
        if (sg b t 123 (tE b t p)).1 = false then (false, (sg b t 123 (tE b t p)).2.1, (sg b t 123 (tE b t p)).2.2, c)
        else prs b t k (sg b t 123 (tE b t p)).2.2 n c d (up o (d - 1) (o (d - 1) + 1))
      else prs b t k (tE b t p) n c (d - 1) o
    else (false, 2, tS b t p, c)
/-- the open sides -/
def SV (n : Nat) (c : Nat → Nat → Nat) (d : Nat) (o : Nat → Nat) : Prop := d ≤ nif c n ∧ (∀ i, i < d → 1 ≤ o i ∧ o i ≤ 2 * nif c n) ∧ (∀ i j, i < j → j < d → (o i - 1) / 2 < (o j - 1) / 2) ∧ ∀ i, i < d → o i % 2 = 1 → ∀ k, k < n → c k 4 ≠ o i + 1
theorem top_le {n d : Nat} {c : Nat → Nat → Nat} {o : Nat → Nat} (h : SV n c d o) : top d o ≤ 2 * nif c n := by
  unfold top
  by_cases z : d = 0
  · rw [if_pos z]; omega
  · rw [if_neg z]; exact (h.2.1 (d - 1) (by omega)).2
theorem PV_app {n d : Nat} {c : Nat → Nat → Nat} {o : Nat → Nat} {ws : Nat → Nat} {ou : Nat} (hw : ∀ j, ws j ≤ 2) (hv : PV n c ws ou) (hs : SV n c d o) {kd v1 v2 v3 : Nat} (hn : n < 24) (hk : kd ≤ 5) (h6 : kd = 5 → nif c n < 6) (h1 : v1 ≤ 7) (h2 : v2 ≤ (if kd = 0 then 99 else if kd = 5 then 10 else 7)) (h3 : v3 ≤ 7) : PV (n + 1) (up c n (rowf kd v1 v2 v3 (top d o))) ws ou ∧ SV (n + 1) (up c n (rowf kd v1 v2 v3 (top d o))) (if kd = 5 then d + 1 else d) (if kd = 5 then up o d (2 * nif c n + 1) else o) := by
  have en := ap_nif1 (c := c) (n := n) (rowf kd v1 v2 v3 (top d o))
  have r0 : rowf kd v1 v2 v3 (top d o) 0 = kd := rfl
  have r4' : rowf kd v1 v2 v3 (top d o) 4 = top d o := rfl
  rw [r0] at en
  have tl := top_le hs
  obtain ⟨p1, p2, p3, p4, p5⟩ := hv
  obtain ⟨s1, s2, s3, s4⟩ := hs
  have gi : ∀ i, i < n → up c n (rowf kd v1 v2 v3 (top d o)) i = c i := fun i hi => up_ne _ _ (by omega)
  have cg : ∀ i, i < n → nif (up c n (rowf kd v1 v2 v3 (top d o))) i = nif c i := fun i hi => nif_cong (fun q hq => by rw [gi q (by omega)])
  have tk : ∀ i, i < d → o i % 2 = 1 → top d o ≠ o i + 1 := fun i hi ho => by
    unfold top
    rw [if_neg (by omega)]
    by_cases z : i = d - 1
    · rw [← z]; omega
    · have := s3 i (d - 1) (by omega) (by omega)
      omega
  refine ⟨⟨by omega, ?_, p3, fun i hi => ?_, fun j _ => hw j⟩, ?_⟩
  · rw [en]
    by_cases k5 : kd = 5
    · rw [if_pos k5]; have := h6 k5; omega
    · rw [if_neg k5]; omega
  · by_cases z : i = n
    · rw [z, up_eq, ap_nif]
      refine ⟨hk, h1, h2, h3, tl, fun ho k hkn => ?_⟩
      rw [up_eq, r4'] at ho ⊢
      rw [gi k hkn]
      unfold top at ho ⊢
      by_cases d0 : d = 0
      · rw [if_pos d0] at ho; omega
      · rw [if_neg d0] at ho ⊢
        exact s4 (d - 1) (by omega) ho k hkn
    · rw [gi i (by omega), cg i (by omega)]
      obtain ⟨g1, g2, g3, g4, g5, g6⟩ := p4 i (by omega)
      exact ⟨g1, g2, g3, g4, g5, g6.cg (fun k hk => by rw [gi k (by omega)])⟩
  · by_cases k5 : kd = 5
    · rw [if_pos k5, if_pos k5]
      rw [if_pos k5] at en
      unfold SV
      rw [en]
      refine ⟨by omega, fun i hi => ?_, fun i j hij hj => ?_, fun i hi ho k hkn => ?_⟩
      · by_cases z : i = d
        · rw [z, up_eq]; omega
        · rw [up_ne _ _ z]; have := s2 i (by omega); omega
      · rw [up_ne _ _ (by omega)]
        by_cases z : j = d
        · rw [z, up_eq]; have := s2 i (by omega); omega
        · rw [up_ne _ _ z]; exact s3 i j hij (by omega)
      · by_cases z : i = d
        · rw [z, up_eq]
          by_cases y : k = n
          · rw [y, up_eq, r4']; omega
          · rw [gi k (by omega)]
            have q := p4 k (by omega)
            have q2 : nif c k ≤ nif c n := nif_mono (by omega)
            have := q.2.2.2.2.1
            omega
        · rw [up_ne _ _ z] at ho ⊢
          by_cases y : k = n
          · rw [y, up_eq, r4']; exact tk i (by omega) ho
          · rw [gi k (by omega)]; exact s4 i (by omega) ho k (by omega)
    · rw [if_neg k5, if_neg k5]
      rw [if_neg k5, Nat.add_zero] at en
      unfold SV
      rw [en]
      refine ⟨s1, s2, s3, fun i hi ho k hkn => ?_⟩
      by_cases y : k = n
      · rw [y, up_eq, r4']; exact tk i hi ho
      · rw [gi k (by omega)]; exact s4 i hi ho k (by omega)
theorem SV_other {n d : Nat} {c : Nat → Nat → Nat} {o : Nat → Nat} (h : SV n c d o) (hd : 0 < d) (ho : o (d - 1) % 2 = 1) : SV n c d (up o (d - 1) (o (d - 1) + 1)) := by
  obtain ⟨s1, s2, s3, s4⟩ := h
  refine ⟨s1, fun i hi => ?_, fun i j hij hj => ?_, fun i hi ho2 k hk => ?_⟩
  · by_cases z : i = d - 1
    · rw [z, up_eq]; have := s2 (d - 1) (by omega); omega
    · rw [up_ne _ _ z]; exact s2 i hi
  · rw [up_ne _ _ (by omega)]
    have := s3 i j hij hj
    by_cases z : j = d - 1
    · rw [z] at this ⊢
      rw [up_eq]
      omega
    · rw [up_ne _ _ z]; exact this
  · by_cases z : i = d - 1
    · rw [z, up_eq] at ho2; omega
    · rw [up_ne _ _ z] at ho2 ⊢; exact s4 i hi ho2 k hk
theorem SV_pop {n d : Nat} {c : Nat → Nat → Nat} {o : Nat → Nat} (h : SV n c d o) : SV n c (d - 1) o := by
  obtain ⟨s1, s2, s3, s4⟩ := h
  exact ⟨by omega, fun i hi => s2 i (by omega), fun i j hij hj => s3 i j hij (by omega), fun i hi => s4 i (by omega)⟩
theorem prs_PV {b : Nat → Nat} {t : Nat} {ws : Nat → Nat} {ou : Nat} (hw : ∀ j, ws j ≤ 2) : ∀ k p n (c : Nat → Nat → Nat) d (o : Nat → Nat), p ≤ t → PV n c ws ou → SV n c d o → (prs b t k p n c d o).1 = true → PV (prs b t k p n c d o).2.1 (prs b t k p n c d o).2.2.2 ws ou := by
  intro k
  induction k with
  | zero => intro p n c d o _ _ _ h; cases h
  | succ k ih =>
    intro p n c d o hp hv hs h
    have hl := t_le (b := b) hp
    rw [prs] at h ⊢
    by_cases k7 : tK b t p = 7
    · rw [if_pos k7] at h; cases h
    · rw [if_neg k7] at h ⊢
      by_cases k0 : tK b t p = 0 ∧ d = 0
      · rw [if_pos k0]; exact hv
      · rw [if_neg k0] at h ⊢
        by_cases k1 : tK b t p = 1
        · rw [if_pos k1] at h ⊢
          by_cases c6 : kn b (tS b t p) (tE b t p) = 6
          · rw [if_pos c6] at h; cases h
          · rw [if_neg c6] at h ⊢
            by_cases rm : n < 24 ∧ (kn b (tS b t p) (tE b t p) = 5 → nif c n < 6)
            · rw [if_neg (fun z => z rm)] at h ⊢
              by_cases smf : (stm b t (kn b (tS b t p) (tE b t p)) (tE b t p)).1 = false
              · rw [if_pos smf] at h; cases h
              · rw [if_neg smf] at h ⊢
                have sm : (stm b t (kn b (tS b t p) (tE b t p)) (tE b t p)).1 = true := by simpa using smf
                obtain ⟨o1, o2, o3, o4, o5, o6, o7, o8, o9, o10⟩ := stm_ok hl.2.2.1 sm
                have kl := kn_le (b := b) (tS b t p) (tE b t p)
                obtain ⟨q1, q2⟩ := PV_app hw hv hs (kd := kn b (tS b t p) (tE b t p)) rm.1 (by omega) rm.2 o8 o9 o10
                exact ih _ _ _ _ _ o7 q1 q2 h
            · rw [if_pos rm] at h; cases h
        · rw [if_neg k1] at h ⊢
          by_cases k5 : tK b t p = 125 ∧ 0 < d
          · rw [if_pos k5] at h ⊢
            by_cases od : o (d - 1) % 2 = 1
            · rw [if_pos od] at h ⊢
              by_cases smf : (sg b t 123 (tE b t p)).1 = false
              · rw [if_pos smf] at h; cases h
              · rw [if_neg smf] at h ⊢
                have sm : (sg b t 123 (tE b t p)).1 = true := by simpa using smf
                have o4 := sg_ok (by decide) hl.2.2.1 sm
                exact ih _ _ _ _ _ o4.2.1 hv (SV_other hs k5.2 od) h
            · rw [if_neg od] at h ⊢
              exact ih _ _ _ _ _ hl.2.2.1 hv (SV_pop hs) h
          · rw [if_neg k5] at h; cases h

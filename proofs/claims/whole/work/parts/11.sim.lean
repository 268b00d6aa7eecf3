/-! the picture and the heap: a reference is a place, ad says where it lies -/
def cv (ad : Nat → Nat) : Value → Value
  | .ref k => .ref (ad k)
  | v => v
theorem cv_cat (ad : Nat → Nat) (v : Value) : (cv ad v).category = v.category := by cases v <;> rfl
theorem cv_cats (ad : Nat → Nat) (l : List Value) : ((l.map (cv ad)).map fun v => v.category).sum = dcat l := by
  unfold dcat
  rw [List.map_map]
  congr 2
  funext v
  exact cv_cat ad v
theorem cv_rf (ad : Nat → Nat) (r : Option Nat) : cv ad (va_rf r) = va_rf (r.map ad) := by cases r <;> rfl
def dcA (ad : Nat → Nat) (a : vp_A) : vp_A := match a with
  | (n, .inr (.inr (.inr (.inr f)))) => (n, .inr (.inr (.inr (.inr fun j => (f j).map ad))))
  | (n, .inl f) => (n, .inl f)
  | (n, .inr (.inl f)) => (n, .inr (.inl f))
  | (n, .inr (.inr (.inl f))) => (n, .inr (.inr (.inl f)))
  | (n, .inr (.inr (.inr (.inl f)))) => (n, .inr (.inr (.inr (.inl f))))
theorem dcA_len (ad : Nat → Nat) (a : vp_A) : (dcA ad a).1 = a.1 := by
  obtain ⟨n, f | f | f | f | f⟩ := a <;> rfl
def dcE (tyC : Nat → ClassId) (ad : Nat → Nat) (e : dE) : va_E := match e with
  | .inl (t, a) => .inl (tyC t, dcA ad a)
  | .inr (c, fs) => .inr (c, fs.map (cv ad))
def dws (tyC : Nat → ClassId) (ad : Nat → Nat) (σ : dS) : va_W := (List.range dN).map fun k => (ad k, dcE tyC ad (σ k))
theorem dws_len (tyC : Nat → ClassId) (ad : Nat → Nat) (σ : dS) : (dws tyC ad σ).length = dN := by simp [dws]
theorem dws_get {tyC : Nat → ClassId} {ad : Nat → Nat} {σ : dS} {k : Nat} (h : k < dN) : (dws tyC ad σ)[k]? = some (ad k, dcE tyC ad (σ k)) := by
  simp [dws, List.getElem?_map, List.getElem?_range h]
theorem dws_out {tyC : Nat → ClassId} {ad : Nat → Nat} {σ : dS} {k : Nat} {q : Nat × va_E} (h : (dws tyC ad σ)[k]? = some q) : k < dN ∧ q = (ad k, dcE tyC ad (σ k)) := by
  have hk : k < dN := by
    have := (List.getElem?_eq_some_iff.mp h).1
    rwa [dws_len] at this
  rw [dws_get hk] at h
  exact ⟨hk, (Option.some.inj h).symm⟩
theorem dws_set {tyC : Nat → ClassId} {ad : Nat → Nat} {σ : dS} {k : Nat} (h : k < dN) (e : dE) : (dws tyC ad σ).set k (ad k, dcE tyC ad e) = dws tyC ad (dup1 σ k e) := by
  apply List.ext_getElem?
  intro j
  rw [List.getElem?_set]
  by_cases hj : k = j
  · subst hj
    rw [if_pos rfl, dws_len, if_pos h, dws_get h]
    simp [dup1]
  · rw [if_neg hj]
    by_cases hn : j < dN
    · rw [dws_get hn, dws_get hn]
      simp [dup1, Ne.symm hj]
    · rw [List.getElem?_eq_none (by rw [dws_len]; omega), List.getElem?_eq_none (by rw [dws_len]; omega)]
theorem dws_D {A B : Nat → Prop} {tyC : Nat → ClassId} {ad : Nat → Nat} {σ τ : dS} (h : va_D A (dws tyC ad σ)) (hB : ∀ k, k < dN → A (ad k) → B (ad k)) : va_D B (dws tyC ad τ) := by
  refine ⟨fun i j p q hp hq e => ?_, fun k q hk => ?_⟩
  · obtain ⟨h1, rfl⟩ := dws_out hp
    obtain ⟨h2, rfl⟩ := dws_out hq
    exact h.1 i j _ _ (dws_get h1) (dws_get h2) e
  · obtain ⟨h1, rfl⟩ := dws_out hk
    exact hB k h1 (h.2 k _ (dws_get h1))
def dtys (tyC : Nat → ClassId) : List (ClassId × FieldType) := [(tyC 0, .int), (tyC 1, .byte), (tyC 2, .boolean), (tyC 3, .long), (tyC 4, .object RX3), (tyC 5, .object RX4)]
/-- the locals -/
def dlv (ad : Nat → Nat) : Nat → dL → List (Nat × Value)
  | _, [] => []
  | k, none :: L => dlv ad (k + 1) L
  | k, some v :: L => (k, cv ad v) :: dlv ad (k + 1) L
theorem dlv_mem {ad : Nat → Nat} : ∀ {L : dL} {k : Nat} {q : Nat × Value}, q ∈ dlv ad k L ↔ ∃ (j : Nat) (v : Value), L[j]? = some (some v) ∧ q = (k + j, cv ad v)
  | [], k, q => by simp [dlv]
  | none :: L, k, q => by
    rw [dlv, dlv_mem]
    constructor
    · rintro ⟨j, v, h1, h2⟩
      exact ⟨j + 1, v, by simpa using h1, by rw [h2]; congr 1; omega⟩
    · rintro ⟨j, v, h1, h2⟩
      cases j with
      | zero => simp at h1
      | succ j => exact ⟨j, v, by simpa using h1, by rw [h2]; congr 1; omega⟩
  | some w :: L, k, q => by
    rw [dlv, List.mem_cons, dlv_mem]
    constructor
    · rintro (h | ⟨j, v, h1, h2⟩)
      · exact ⟨0, w, rfl, h⟩
      · exact ⟨j + 1, v, by simpa using h1, by rw [h2]; congr 1; omega⟩
    · rintro ⟨j, v, h1, h2⟩
      cases j with
      | zero =>
        simp at h1
        subst h1
        exact Or.inl h2
      | succ j => exact Or.inr ⟨j, v, by simpa using h1, by rw [h2]; congr 1; omega⟩
theorem dlv_at {ad : Nat → Nat} {ls : Array Slot} {n i : Nat} {L : dL} {v : Value} (h : lv_has ls n (dlv ad 0 L)) (hi : L[i]? = some (some v)) : ls[i]? = some (.val (cv ad v)) := h.2.2 (i, cv ad v) (dlv_mem.mpr ⟨i, v, hi, by simp⟩)
theorem dlv_sub {ad : Nat → Nat} {ls : Array Slot} {n : Nat} {L : dL} {l : List (Nat × Value)} (h : lv_has ls n l) (hs : ∀ q ∈ dlv ad 0 L, q ∈ l) : lv_has ls n (dlv ad 0 L) := ⟨h.1, h.2.1, fun q hq => h.2.2 q (hs q hq)⟩
theorem dldI_some {L : dL} {i : Nat} {x : Int32} (h : dldI L i = some x) : L[i]? = some (some (.int x)) := by
  unfold dldI at h
  split at h <;> cases h
  assumption
theorem dldL_some {L : dL} {i : Nat} {x : Int64} (h : dldL L i = some x) : L[i]? = some (some (.long x)) := by
  unfold dldL at h
  split at h <;> cases h
  assumption
theorem dldR_some {L : dL} {i : Nat} {x : Nat} (h : dldR L i = some x) : L[i]? = some (some (.ref x)) := by
  unfold dldR at h
  split at h <;> cases h
  assumption
theorem dprev_cat {L : dL} {i j : Nat} {v : Value} (h : dprev L i = true) (hj : j + 1 = i) (hv : L[j]? = some (some v)) : v.category = 1 := by
  subst hj
  simp only [dprev, hv] at h
  exact eq_of_beq h
theorem dst1_sub {ad : Nat → Nat} {L L' : dL} {i : Nat} {v : Value} (h : dst1 L i v = some L') : i < L.length ∧ L'.length = L.length ∧ ∀ q ∈ dlv ad 0 L', q ∈ (i, cv ad v) :: (dlv ad 0 L).filter (fun q => !(q.1 == i) && !(q.1 + 1 == i && q.2.category == 2)) := by
  unfold dst1 at h
  split at h <;> cases h
  rename_i hc
  refine ⟨hc.1, by simp, fun q hq => ?_⟩
  obtain ⟨j, w, h1, rfl⟩ := dlv_mem.mp hq
  rw [List.getElem?_set] at h1
  by_cases hj : i = j
  · subst hj
    rw [if_pos rfl, if_pos hc.1] at h1
    cases h1
    rw [Nat.zero_add]
    exact List.mem_cons_self
  · rw [if_neg hj] at h1
    refine List.mem_cons_of_mem _ (List.mem_filter.mpr ⟨dlv_mem.mpr ⟨j, w, h1, rfl⟩, ?_⟩)
    simp only [Nat.zero_add]
    have n1 : (j == i) = false := by simp [Ne.symm hj]
    rw [n1]
    by_cases hp : j + 1 = i
    · have := dprev_cat hc.2 hp h1
      simp [cv_cat, this]
    · simp [hp]
theorem dst2_sub {ad : Nat → Nat} {L L' : dL} {i : Nat} {v : Value} (h : dst2 L i v = some L') : i + 1 < L.length ∧ L'.length = L.length ∧ ∀ q ∈ dlv ad 0 L', q ∈ (i, cv ad v) :: (dlv ad 0 L).filter (fun q => !(q.1 == i) && (!(q.1 == i + 1) && !(q.1 + 1 == i && q.2.category == 2))) := by
  unfold dst2 at h
  split at h <;> cases h
  rename_i hc
  refine ⟨hc.1, by simp, fun q hq => ?_⟩
  obtain ⟨j, w, h1, rfl⟩ := dlv_mem.mp hq
  rw [List.getElem?_set] at h1
  by_cases hj1 : i + 1 = j
  · subst hj1
    rw [if_pos rfl] at h1
    split at h1 <;> cases h1
  · rw [if_neg hj1, List.getElem?_set] at h1
    by_cases hj : i = j
    · subst hj
      rw [if_pos rfl, if_pos (by omega)] at h1
      cases h1
      rw [Nat.zero_add]
      exact List.mem_cons_self
    · rw [if_neg hj] at h1
      refine List.mem_cons_of_mem _ (List.mem_filter.mpr ⟨dlv_mem.mpr ⟨j, w, h1, rfl⟩, ?_⟩)
      simp only [Nat.zero_add]
      have n1 : (j == i) = false := by simp [Ne.symm hj]
      have n2 : (j == i + 1) = false := by simp [Ne.symm hj1]
      rw [n1, n2]
      by_cases hp : j + 1 = i
      · have := dprev_cat hc.2 hp h1
        simp [cv_cat, this]
      · simp [hp]
theorem dargs_sub {ad : Nat → Nat} : ∀ {vs : List Value} {k : Nat}, dlv ad k (dargs vs) = lv_args k (vs.map (cv ad))
  | [], k => rfl
  | v :: vs, k => by
    rw [dargs, List.map_cons, lv_args, cv_cat]
    by_cases h : v.category = 2
    · rw [if_pos h, if_pos h, dlv, dlv, dargs_sub]
    · rw [if_neg h, if_neg h, dlv, dargs_sub]
theorem dargs_len {ad : Nat → Nat} : ∀ {vs : List Value}, (dargs vs).length = (lg_sl (vs.map (cv ad))).length
  | [] => rfl
  | v :: vs => by
    have ih := dargs_len (ad := ad) (vs := vs)
    rw [dargs, List.map_cons]
    by_cases h : v.category = 2
    · rw [if_pos h]
      simp [lg_sl, cv_cat, h, ih]
    · rw [if_neg h]
      simp [lg_sl, cv_cat, h, ih]
theorem dlv_app_none {ad : Nat → Nat} {n : Nat} : ∀ {L : dL} {k : Nat}, dlv ad k (L ++ List.replicate n none) = dlv ad k L
  | [], k => by
    induction n generalizing k with
    | zero => rfl
    | succ n ih => simpa [List.replicate_succ, dlv] using ih (k := k + 1)
  | none :: L, k => by simpa [dlv] using dlv_app_none (n := n) (L := L) (k := k + 1)
  | some v :: L, k => by simpa [dlv] using dlv_app_none (n := n) (L := L) (k := k + 1)

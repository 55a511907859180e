/-! PURE: the row of cars and the rows of trains -/
def pr_off (t : py_Z) : Nat → Nat
  | 0 => 0
  | j + 1 => pr_off t j + (t 41 j).toNat
def pr_RW (s t : py_Z) : Prop :=
  (0 ≤ t 50 0 ∧ t 50 0 ≤ 40) ∧
  (∀ j : Nat, (j : Int) < t 50 0 → 1 ≤ t 41 j ∧ t 41 j ≤ 40) ∧
  ((pr_off t (t 50 0).toNat : Int) = s 13 0 ∧ s 13 0 ≤ 40) ∧
  (∀ j k : Nat, (j : Int) < t 50 0 → (k : Int) < t 41 j → s 5 (pr_off t j + k) = t 42 (40 * j + k) ∧ (0 ≤ t 42 (40 * j + k) ∧ t 42 (40 * j + k) < 40) ∧ s 6 (t 42 (40 * j + k)).toNat = t 40 j) ∧
  (∀ j : Nat, (j : Int) < t 50 0 → 1 ≤ t 40 j ∧ t 40 j ≤ t 57 0) ∧
  (∀ i j : Nat, i < j → (j : Int) < t 50 0 → t 40 i < t 40 j) ∧
  (s 14 0 = t 57 0 ∧ 0 ≤ t 57 0 ∧ t 57 0 ≤ 100000) ∧
  (∀ c : Nat, c < 40 → s 6 c ≠ 0 → ∃ k : Nat, (k : Int) < s 13 0 ∧ s 5 k = c) ∧
  (∀ a b : Nat, a < b → (b : Int) < s 13 0 → s 5 a ≠ s 5 b) ∧
  ((py_cnt (fun c => decide (s 6 c ≠ 0)) 40 : Int) = s 13 0)
theorem pr_off_mono {t : py_Z} : ∀ (d i : Nat), pr_off t i ≤ pr_off t (i + d)
  | 0, i => Nat.le_refl _
  | d + 1, i => by
    have := pr_off_mono (t := t) d i
    show pr_off t i ≤ pr_off t (i + d) + _
    omega
theorem pr_off_le {t : py_Z} {i j : Nat} (h : i ≤ j) : pr_off t i ≤ pr_off t j := by
  have := pr_off_mono (t := t) (j - i) i
  rwa [show i + (j - i) = j by omega] at this
theorem pr_off_dec {t : py_Z} : ∀ (n i : Nat), i < pr_off t n → ∃ j k : Nat, j < n ∧ (k : Int) < t 41 j ∧ i = pr_off t j + k
  | 0, i, h => by simp [pr_off] at h
  | n + 1, i, h => by
    by_cases e : i < pr_off t n
    · obtain ⟨j, k, h1, h2, h3⟩ := pr_off_dec n i e
      exact ⟨j, k, by omega, h2, h3⟩
    · refine ⟨n, i - pr_off t n, by omega, ?_, by omega⟩
      have : pr_off t (n + 1) = pr_off t n + (t 41 n).toNat := rfl
      omega
section PRW
variable {s t : py_Z}
theorem pr_RW.cnt (h : pr_RW s t) : 0 ≤ s 13 0 ∧ s 13 0 ≤ 40 := by
  have := h.2.2.1; omega
/-- a car of the row is the k-th of the j-th train -/
theorem pr_RW.dec (h : pr_RW s t) {i : Nat} (hi : (i : Int) < s 13 0) : ∃ j k : Nat, (j : Int) < t 50 0 ∧ (k : Int) < t 41 j ∧ i = pr_off t j + k := by
  have h1 := h.1
  obtain ⟨j, k, h2, h3, h4⟩ := pr_off_dec (t := t) (t 50 0).toNat i (by have := h.2.2.1; omega)
  exact ⟨j, k, by omega, h3, h4⟩
theorem pr_RW.lt (h : pr_RW s t) {j k : Nat} (hj : (j : Int) < t 50 0) (hk : (k : Int) < t 41 j) : ((pr_off t j + k : Nat) : Int) < s 13 0 := by
  have h1 := pr_off_le (t := t) (show j + 1 ≤ (t 50 0).toNat by omega)
  have h2 : pr_off t (j + 1) = pr_off t j + (t 41 j).toNat := rfl
  have := h.2.2.1
  omega
theorem pr_RW.end_le (h : pr_RW s t) {j : Nat} (hj : (j : Int) < t 50 0) : (pr_off t j : Int) + t 41 j ≤ s 13 0 := by
  have h1 := pr_off_le (t := t) (show j + 1 ≤ (t 50 0).toNat by omega)
  have h2 : pr_off t (j + 1) = pr_off t j + (t 41 j).toNat := rfl
  have := h.2.2.1
  omega
theorem pr_RW.off_ge (h : pr_RW s t) : ∀ (j : Nat), (j : Int) ≤ t 50 0 → j ≤ pr_off t j
  | 0, _ => Nat.zero_le _
  | j + 1, hj => by
    have h1 := pr_RW.off_ge h j (by omega)
    have h2 : pr_off t (j + 1) = pr_off t j + (t 41 j).toNat := rfl
    have := h.2.1 j (by omega)
    omega
/-- what a car of the row is -/
theorem pr_RW.car (h : pr_RW s t) {i : Nat} (hi : (i : Int) < s 13 0) : (0 ≤ s 5 i ∧ s 5 i < 40) ∧ ∃ j k : Nat, (j : Int) < t 50 0 ∧ (k : Int) < t 41 j ∧ i = pr_off t j + k ∧ s 5 i = t 42 (40 * j + k) ∧ s 6 (s 5 i).toNat = t 40 j ∧ 1 ≤ t 40 j ∧ t 40 j ≤ 100000 := by
  obtain ⟨j, k, hj, hk, rfl⟩ := h.dec hi
  obtain ⟨h1, h2, h3⟩ := h.2.2.2.1 j k hj hk
  have h4 := h.2.2.2.2.1 j hj
  have h5 := h.2.2.2.2.2.2.1
  exact ⟨by rw [h1]; exact h2, j, k, hj, hk, rfl, h1, by rw [h1]; exact h3, h4.1, by omega⟩
/-- a car has its place in one train alone -/
theorem pr_RW.num (h : pr_RW s t) {i j : Nat} (hi : (i : Int) < t 50 0) (hj : (j : Int) < t 50 0) (e : t 40 i = t 40 j) : i = j := by
  rcases Nat.lt_trichotomy i j with h1 | h1 | h1
  · have := h.2.2.2.2.2.1 i j h1 hj; omega
  · exact h1
  · have := h.2.2.2.2.2.1 j i h1 hi; omega
theorem pr_RW.num_le (h : pr_RW s t) {i j : Nat} (hi : (i : Int) < t 50 0) (hj : (j : Int) < t 50 0) : t 40 i ≤ t 40 j ↔ i ≤ j := by
  constructor
  · intro e
    rcases Nat.lt_or_ge j i with h1 | h1
    · have := h.2.2.2.2.2.1 j i h1 hi; omega
    · exact h1
  · intro e
    rcases Nat.lt_or_eq_of_le e with h1 | h1
    · have := h.2.2.2.2.2.1 i j h1 hj; omega
    · rw [h1]; omega
theorem pr_RW.inj (h : pr_RW s t) {i j : Nat} (hi : (i : Int) < s 13 0) (hj : (j : Int) < s 13 0) (e : s 5 i = s 5 j) : i = j := by
  rcases Nat.lt_trichotomy i j with h1 | h1 | h1
  · exact absurd e (h.2.2.2.2.2.2.2.2.1 i j h1 hj)
  · exact h1
  · exact absurd e.symm (h.2.2.2.2.2.2.2.2.1 j i h1 hi)
theorem pr_RW.inj2 (h : pr_RW s t) {j k j' k' : Nat} (hj : (j : Int) < t 50 0) (hk : (k : Int) < t 41 j) (hj' : (j' : Int) < t 50 0) (hk' : (k' : Int) < t 41 j') (e : t 42 (40 * j + k) = t 42 (40 * j' + k')) : j = j' ∧ k = k' := by
  obtain ⟨h1, h2, h3⟩ := h.2.2.2.1 j k hj hk
  obtain ⟨h4, h5, h6⟩ := h.2.2.2.1 j' k' hj' hk'
  have h7 : j = j' := h.num hj hj' (by rw [← h3, ← h6, e])
  subst h7
  have := h.inj (h.lt hj hk) (h.lt hj hk') (by rw [h1, h4, e])
  exact ⟨rfl, by omega⟩
/-- the number of a car's train, or 0 -/
theorem pr_RW.six (h : pr_RW s t) {c : Nat} (hc : c < 40) : s 6 c = 0 ∨ ∃ j k : Nat, (j : Int) < t 50 0 ∧ (k : Int) < t 41 j ∧ t 42 (40 * j + k) = c ∧ s 6 c = t 40 j ∧ 1 ≤ t 40 j ∧ t 40 j ≤ 100000 ∧ s 5 (pr_off t j + k) = c := by
  by_cases e : s 6 c = 0
  · exact Or.inl e
  · obtain ⟨i, hi, e2⟩ := h.2.2.2.2.2.2.2.1 c hc e
    obtain ⟨h1, j, k, hj, hk, h2, h3, h4, h5, h6⟩ := h.car hi
    have e3 : (s 5 i).toNat = c := by omega
    exact Or.inr ⟨j, k, hj, hk, by omega, by rw [← e3]; exact h4, h5, h6, by rw [← h2]; exact e2⟩
theorem pr_RW.six_b (h : pr_RW s t) {c : Nat} (hc : c < 40) : 0 ≤ s 6 c ∧ s 6 c ≤ 100000 := by
  rcases h.six hc with e | ⟨j, k, hj, hk, h1, h2, h3, h4, h5⟩ <;> omega
/-- a free car there is, unless all are in the row -/
theorem pr_RW.free (h : pr_RW s t) (hf : s 13 0 < 40) : ∃ c : Nat, c < 40 ∧ s 6 c = 0 := by
  have h1 := h.2.2.2.2.2.2.2.2.2
  obtain ⟨c, h2, h3⟩ := py_cnt_ex (P := fun c => decide (s 6 c ≠ 0)) (n := 40) (by omega)
  exact ⟨c, h2, by simpa using h3⟩
theorem pr_RW.nofree (h : pr_RW s t) (hf : 40 ≤ s 13 0) : ∀ c : Nat, c < 40 → s 6 c ≠ 0 := by
  intro c hc
  have h1 := h.2.2.2.2.2.2.2.2.2
  have h0 := h.cnt
  have := py_cnt_full (P := fun c => decide (s 6 c ≠ 0)) (n := 40) (by omega) c hc
  simpa using this
end PRW

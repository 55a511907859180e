/-! PURE: what the class's row answers -/
section PRC
variable {s t : py_Z} {K : ty_S → Int32 → Prop}
theorem pr_RW.some (h : pr_RW s t) : 0 < t 50 0 ↔ 0 < s 13 0 := by
  have h1 := h.off_ge (t 50 0).toNat (by have := h.1; omega)
  have h2 := h.2.2.1
  constructor
  · intro e; omega
  · intro e
    obtain ⟨j, k, hj, hk, -⟩ := h.dec (i := 0) (by omega)
    omega
theorem pr_RW.last (h : pr_RW s t) (hn : 0 < t 50 0) : (pr_off t ((t 50 0).toNat - 1) : Int) + t 41 ((t 50 0).toNat - 1) = s 13 0 := by
  have h1 : pr_off t ((t 50 0).toNat - 1 + 1) = pr_off t ((t 50 0).toNat - 1) + (t 41 ((t 50 0).toNat - 1)).toNat := rfl
  have h2 := h.2.1 ((t 50 0).toNat - 1) (by omega)
  have h3 := h.2.2.1
  rw [show (t 50 0).toNat - 1 + 1 = (t 50 0).toNat by omega] at h1
  omega
/-- which train a place of the row is in -/
theorem pr_RW.in_iff (h : pr_RW s t) {j k : Nat} (hj : (j : Int) < t 50 0) (hk : (k : Int) < s 13 0) : s 6 (s 5 k).toNat = t 40 j ↔ pr_off t j ≤ k ∧ (k : Int) < pr_off t j + t 41 j := by
  obtain ⟨h1, j', k', hj', hk', h2, h3, h4, h5, h6⟩ := h.car hk
  rw [h4]
  constructor
  · intro e
    have := h.num hj' hj e
    subst this
    omega
  · intro ⟨e1, e2⟩
    rcases Nat.lt_trichotomy j' j with h7 | h7 | h7
    · have h8 := pr_off_le (t := t) (show j' + 1 ≤ j by omega)
      have h9 : pr_off t (j' + 1) = pr_off t j' + (t 41 j').toNat := rfl
      omega
    · rw [h7]
    · have h8 := pr_off_le (t := t) (show j + 1 ≤ j' by omega)
      have h9 : pr_off t (j + 1) = pr_off t j + (t 41 j).toNat := rfl
      omega
theorem pr_RW.next (h : pr_RW s t) {j i j' k' : Nat} (hj : (j : Int) < t 50 0) (hi : (i : Int) < t 41 j) (hj' : (j' : Int) < t 50 0) (hk' : (k' : Int) < t 41 j') (e : pr_off t j + i + 1 = pr_off t j' + k') : (j' = j ∧ k' = i + 1) ∨ (j' = j + 1 ∧ k' = 0) := by
  have h9 : pr_off t (j + 1) = pr_off t j + (t 41 j).toNat := rfl
  have h10 : pr_off t (j' + 1) = pr_off t j' + (t 41 j').toNat := rfl
  rcases Nat.lt_trichotomy j' j with h7 | h7 | h7
  · have h8 := pr_off_le (t := t) (show j' + 1 ≤ j by omega)
    omega
  · subst h7; exact Or.inl ⟨rfl, by omega⟩
  · rcases Nat.lt_or_eq_of_le (show j + 1 ≤ j' from h7) with h8 | h8
    · have h11 := pr_off_le (t := t) (show j + 1 + 1 ≤ j' by omega)
      have h12 : pr_off t (j + 1 + 1) = pr_off t (j + 1) + (t 41 (j + 1)).toNat := rfl
      have := h.2.1 (j + 1) (by omega)
      omega
    · subst h8; exact Or.inr ⟨rfl, by omega⟩
theorem pr_firstTrain (h : pr_RW s t) (h1 : 0 < t 50 0 → K (py_O s) (py_o (t 40 0))) (h0 : t 50 0 = 0 → K (py_O s) (py_o 0)) : eX1_firstTrain (py_O s) K := by
  unfold eX1_firstTrain
  try simp only [py_O_ap, py_l0, py_l1, py_l2, py_l3, py_l4, py_l5, py_l6, py_l7, py_l8, py_l9, py_l12, py_l16, py_l32, py_l40, py_l100, py_l640, py_l1280, py_neg, py_add, py_sub, py_mul, py_stO]
  have hs := h.some
  have hn := h.1
  refine pr_carAt h.cnt (fun _ c => ?_) (fun c => ?_)
  · have hc := h.car (i := 0) (by omega)
    refine pr_trainOf (fun _ _ => ?_) (fun c => absurd c (by simp only [Int.toNat_zero]; omega)) (by simp only [Int.toNat_zero]; omega)
    have := (h.in_iff (j := 0) (k := 0) (by omega) (by omega)).mpr ⟨Nat.zero_le _, by have := h.2.1 0 (by omega); simp [pr_off]; omega⟩
    simp only [Int.toNat_zero]
    rw [this]
    exact h1 (by omega)
  · exact pr_trainOf (fun c => absurd c (by omega)) (fun _ => h0 (by omega))
theorem pr_lastTrain (h : pr_RW s t) (h1 : 0 < t 50 0 → K (py_O s) (py_o (t 40 ((t 50 0).toNat - 1)))) (h0 : t 50 0 = 0 → K (py_O s) (py_o 0)) : eX1_lastTrain (py_O s) K := by
  unfold eX1_lastTrain
  try simp only [py_O_ap, py_l0, py_l1, py_l2, py_l3, py_l4, py_l5, py_l6, py_l7, py_l8, py_l9, py_l12, py_l16, py_l32, py_l40, py_l100, py_l640, py_l1280, py_neg, py_add, py_sub, py_mul, py_stO]
  have hs := h.some
  have hn := h.1
  have hc0 := h.cnt
  refine pr_carAt h.cnt (fun _ c => ?_) (fun c => ?_)
  · have hc := h.car (i := (s 13 0 - 1).toNat) (by omega)
    refine pr_trainOf (fun _ _ => ?_) (fun c => absurd c (by omega))
    have hl := h.last (by omega)
    have h2 := h.2.1 ((t 50 0).toNat - 1) (by omega)
    have := (h.in_iff (j := (t 50 0).toNat - 1) (k := (s 13 0 - 1).toNat) (by omega) (by omega)).mpr ⟨by omega, by omega⟩
    rw [this]
    exact h1 (by omega)
  · exact pr_trainOf (fun c => absurd c (by omega)) (fun _ => h0 (by omega))
theorem pr_countTrains (h : pr_RW s t) (hK : K (py_O s) (py_o (t 50 0))) : eX1_countTrains (py_O s) K := by
  have hc0 := h.cnt
  have key : ∀ d k f : Nat, (k : Int) + d = s 13 0 → ((k = 0 ∧ f = 0) ∨ ∃ j i : Nat, (j : Int) < t 50 0 ∧ (i : Int) < t 41 j ∧ k = pr_off t j + i + 1 ∧ f = j + 1) → ∃ n9, lX1_countTrains_4 K n9 (py_o f) (py_o k) (py_O s) := by
    intro d
    induction d with
    | zero =>
      intro k f hk hf
      refine ⟨1, ?_⟩
      unfold lX1_countTrains_4
      try simp only [py_O_ap, py_l0, py_l1, py_l2, py_l3, py_l4, py_l5, py_l6, py_l7, py_l8, py_l9, py_l12, py_l16, py_l32, py_l40, py_l100, py_l640, py_l1280, py_neg, py_add, py_sub, py_mul, py_stO]
      refine py_ile (fun _ => ?_) (fun c => absurd c (by omega))
      have e : (f : Int) = t 50 0 := by
        have hs := h.some
        have hn := h.1
        rcases hf with ⟨h1, h2⟩ | ⟨j, i, hj, hi, h1, h2⟩
        · omega
        · rcases Int.lt_or_le (((j + 1 : Nat) : Int)) (t 50 0) with h3 | h3
          · have h4 := h.lt (j := j + 1) (k := 0) h3 (by have := h.2.1 (j + 1) h3; omega)
            have h9 : pr_off t (j + 1) = pr_off t j + (t 41 j).toNat := rfl
            omega
          · omega
      rw [e]; exact hK
    | succ d ih =>
      intro k f hk hf
      obtain ⟨hb, j', k', hj', hk', h2, h3, h4, h5, h6⟩ := h.car (i := k) (by omega)
      have hstep : ∀ f' : Nat, f' = j' + 1 → ∃ n9, lX1_countTrains_4 K n9 (py_o f') (py_o (k + 1)) (py_O s) := fun f' hf' => ih (k + 1) f' (by omega) (Or.inr ⟨j', k', hj', hk', by omega, hf'⟩)
      rcases hf with ⟨h7, h8⟩ | ⟨j, i, hj, hi, h7, h8⟩
      · obtain ⟨n, hn⟩ := hstep (f + 1) (by
          have h9 := h.off_ge j' (by omega)
          omega)
        refine ⟨n + 1, ?_⟩
        unfold lX1_countTrains_4
        try simp only [py_O_ap, py_l0, py_l1, py_l2, py_l3, py_l4, py_l5, py_l6, py_l7, py_l8, py_l9, py_l12, py_l16, py_l32, py_l40, py_l100, py_l640, py_l1280, py_neg, py_add, py_sub, py_mul, py_stO]
        refine py_ile (fun c => absurd c (by omega)) (fun _ => ?_)
        refine pr_carAt h.cnt (fun _ _ => ?_) (fun c => absurd c (by omega))
        simp only [Int.toNat_natCast]
        refine pr_trainOf (fun _ _ => ?_) (fun c => absurd c (by omega))
        refine pr_carAt h.cnt (fun c => absurd c (by omega)) (fun _ => ?_)
        refine pr_trainOf (fun c => absurd c (by omega)) (fun _ => ?_)
        refine py_ieq (fun c => absurd c (by omega)) (fun _ => hn)
      · have h9 := h.next hj hi hj' hk' (by omega)
        have e1 : ((k : Int) - 1).toNat = k - 1 := by omega
        have hp := (h.in_iff (j := j) (k := k - 1) hj (by omega)).mpr ⟨by omega, by omega⟩
        have hcp := h.car (i := k - 1) (by omega)
        rcases h9 with ⟨e2, e3⟩ | ⟨e2, e3⟩
        · obtain ⟨n, hn⟩ := hstep f (by omega)
          refine ⟨n + 1, ?_⟩
          unfold lX1_countTrains_4
          try simp only [py_O_ap, py_l0, py_l1, py_l2, py_l3, py_l4, py_l5, py_l6, py_l7, py_l8, py_l9, py_l12, py_l16, py_l32, py_l40, py_l100, py_l640, py_l1280, py_neg, py_add, py_sub, py_mul, py_stO]
          refine py_ile (fun c => absurd c (by omega)) (fun _ => ?_)
          refine pr_carAt h.cnt (fun _ _ => ?_) (fun c => absurd c (by omega))
          simp only [Int.toNat_natCast]
          refine pr_trainOf (fun _ _ => ?_) (fun c => absurd c (by omega))
          refine pr_carAt h.cnt (fun _ _ => ?_) (fun c => absurd c (by omega))
          rw [e1]
          refine pr_trainOf (fun _ _ => ?_) (fun c => absurd c (by omega))
          rw [hp, h4, e2]
          rw [e2] at h6 h5
          refine py_ieq (fun _ => hn) (fun c => absurd rfl c)
        · obtain ⟨n, hn⟩ := hstep (f + 1) (by omega)
          refine ⟨n + 1, ?_⟩
          unfold lX1_countTrains_4
          try simp only [py_O_ap, py_l0, py_l1, py_l2, py_l3, py_l4, py_l5, py_l6, py_l7, py_l8, py_l9, py_l12, py_l16, py_l32, py_l40, py_l100, py_l640, py_l1280, py_neg, py_add, py_sub, py_mul, py_stO]
          refine py_ile (fun c => absurd c (by omega)) (fun _ => ?_)
          refine pr_carAt h.cnt (fun _ _ => ?_) (fun c => absurd c (by omega))
          simp only [Int.toNat_natCast]
          refine pr_trainOf (fun _ _ => ?_) (fun c => absurd c (by omega))
          refine pr_carAt h.cnt (fun _ _ => ?_) (fun c => absurd c (by omega))
          rw [e1]
          refine pr_trainOf (fun _ _ => ?_) (fun c => absurd c (by omega))
          rw [hp, h4]
          have h10 := h.2.2.2.2.2.1 j j' (by omega) hj'
          have h11 := h.2.2.2.2.1 j hj
          refine py_ieq (fun c => absurd c (by omega)) (fun _ => hn)
  unfold eX1_countTrains
  rw [py_l0]
  exact key (s 13 0).toNat 0 0 (by omega) (Or.inl ⟨rfl, rfl⟩)
theorem pr_startOf (h : pr_RW s t) {a : Int} (ra : -2147483648 ≤ a ∧ a < 2147483648) (h1 : 0 ≤ a → a < t 50 0 → K (py_O s) (py_o (pr_off t a.toNat))) (h0 : (a < 0 ∨ t 50 0 ≤ a) → K (py_O s) (py_o (-1))) : eX1_startOf (py_O s) (py_o a) K := by
  have hc0 := h.cnt
  have key : ∀ d k f : Nat, (k : Int) + d = s 13 0 → ((k = 0 ∧ f = 0) ∨ ∃ j i : Nat, (j : Int) < t 50 0 ∧ (i : Int) < t 41 j ∧ k = pr_off t j + i + 1 ∧ f = j + 1) → (0 ≤ a → a < t 50 0 → (f : Int) ≤ a) → ∃ n9, lX1_startOf_4 K n9 (py_o a) (py_o f) (py_o k) (py_O s) := by
    intro d
    induction d with
    | zero =>
      intro k f hk hf hfa
      refine ⟨1, ?_⟩
      unfold lX1_startOf_4
      try simp only [py_O_ap, py_l0, py_l1, py_l2, py_l3, py_l4, py_l5, py_l6, py_l7, py_l8, py_l9, py_l12, py_l16, py_l32, py_l40, py_l100, py_l640, py_l1280, py_neg, py_add, py_sub, py_mul, py_stO]
      refine py_ile (fun _ => ?_) (fun c => absurd c (by omega))
      have e : (f : Int) = t 50 0 := by
        have hs := h.some
        have hn := h.1
        rcases hf with ⟨h1, h2⟩ | ⟨j, i, hj, hi, h1, h2⟩
        · omega
        · rcases Int.lt_or_le (((j + 1 : Nat) : Int)) (t 50 0) with h3 | h3
          · have h4 := h.lt (j := j + 1) (k := 0) h3 (by have := h.2.1 (j + 1) h3; omega)
            have h9 : pr_off t (j + 1) = pr_off t j + (t 41 j).toNat := rfl
            omega
          · omega
      exact h0 (by omega)
    | succ d ih =>
      intro k f hk hf hfa
      obtain ⟨hb, j', k', hj', hk', h2, h3, h4, h5, h6⟩ := h.car (i := k) (by omega)
      have hstep : ∀ f' : Nat, f' = j' + 1 → (0 ≤ a → a < t 50 0 → (f' : Int) ≤ a) → ∃ n9, lX1_startOf_4 K n9 (py_o a) (py_o f') (py_o (k + 1)) (py_O s) := fun f' hf' ha' => ih (k + 1) f' (by omega) (Or.inr ⟨j', k', hj', hk', by omega, hf'⟩) ha'
      have hn0 := h.1
      rcases hf with ⟨h7, h8⟩ | ⟨j, i, hj, hi, h7, h8⟩
      · have h9 := h.off_ge j' (by omega)
        by_cases ea : (f : Int) = a
        · refine ⟨1, ?_⟩
          unfold lX1_startOf_4
          try simp only [py_O_ap, py_l0, py_l1, py_l2, py_l3, py_l4, py_l5, py_l6, py_l7, py_l8, py_l9, py_l12, py_l16, py_l32, py_l40, py_l100, py_l640, py_l1280, py_neg, py_add, py_sub, py_mul, py_stO]
          refine py_ile (fun c => absurd c (by omega)) (fun _ => ?_)
          refine pr_carAt h.cnt (fun _ _ => ?_) (fun c => absurd c (by omega))
          simp only [Int.toNat_natCast]
          refine pr_trainOf (fun _ _ => ?_) (fun c => absurd c (by omega))
          refine pr_carAt h.cnt (fun c => absurd c (by omega)) (fun _ => ?_)
          refine pr_trainOf (fun c => absurd c (by omega)) (fun _ => ?_)
          refine py_ieq (fun c => absurd c (by omega)) (fun _ => ?_)
          refine py_ieq (fun _ => ?_) (fun c => absurd ea c)
          have e2 : (k : Int) = (pr_off t a.toNat : Nat) := by
            rw [← ea, Int.toNat_natCast, h8]
            simp only [pr_off]; omega
          rw [e2]
          exact h1 (by omega) (by omega)
        · obtain ⟨n, hn⟩ := hstep (f + 1) (by omega) (fun h11 h12 => by have := hfa h11 h12; omega)
          refine ⟨n + 1, ?_⟩
          unfold lX1_startOf_4
          try simp only [py_O_ap, py_l0, py_l1, py_l2, py_l3, py_l4, py_l5, py_l6, py_l7, py_l8, py_l9, py_l12, py_l16, py_l32, py_l40, py_l100, py_l640, py_l1280, py_neg, py_add, py_sub, py_mul, py_stO]
          refine py_ile (fun c => absurd c (by omega)) (fun _ => ?_)
          refine pr_carAt h.cnt (fun _ _ => ?_) (fun c => absurd c (by omega))
          simp only [Int.toNat_natCast]
          refine pr_trainOf (fun _ _ => ?_) (fun c => absurd c (by omega))
          refine pr_carAt h.cnt (fun c => absurd c (by omega)) (fun _ => ?_)
          refine pr_trainOf (fun c => absurd c (by omega)) (fun _ => ?_)
          refine py_ieq (fun c => absurd c (by omega)) (fun _ => ?_)
          refine py_ieq (fun c => absurd c ea) (fun c => hn)
      · have h9 := h.next hj hi hj' hk' (by omega)
        have e1 : ((k : Int) - 1).toNat = k - 1 := by omega
        have hp := (h.in_iff (j := j) (k := k - 1) hj (by omega)).mpr ⟨by omega, by omega⟩
        have hcp := h.car (i := k - 1) (by omega)
        rcases h9 with ⟨e2, e3⟩ | ⟨e2, e3⟩
        · obtain ⟨n, hn⟩ := hstep f (by omega) hfa
          refine ⟨n + 1, ?_⟩
          unfold lX1_startOf_4
          try simp only [py_O_ap, py_l0, py_l1, py_l2, py_l3, py_l4, py_l5, py_l6, py_l7, py_l8, py_l9, py_l12, py_l16, py_l32, py_l40, py_l100, py_l640, py_l1280, py_neg, py_add, py_sub, py_mul, py_stO]
          refine py_ile (fun c => absurd c (by omega)) (fun _ => ?_)
          refine pr_carAt h.cnt (fun _ _ => ?_) (fun c => absurd c (by omega))
          simp only [Int.toNat_natCast]
          refine pr_trainOf (fun _ _ => ?_) (fun c => absurd c (by omega))
          refine pr_carAt h.cnt (fun _ _ => ?_) (fun c => absurd c (by omega))
          rw [e1]
          refine pr_trainOf (fun _ _ => ?_) (fun c => absurd c (by omega))
          rw [hp, h4, e2]
          rw [e2] at h6 h5
          refine py_ieq (fun _ => hn) (fun c => absurd rfl c)
        · have h10 := h.2.2.2.2.2.1 j j' (by omega) hj'
          have h11 := h.2.2.2.2.1 j hj
          by_cases ea : (f : Int) = a
          · refine ⟨1, ?_⟩
            unfold lX1_startOf_4
            try simp only [py_O_ap, py_l0, py_l1, py_l2, py_l3, py_l4, py_l5, py_l6, py_l7, py_l8, py_l9, py_l12, py_l16, py_l32, py_l40, py_l100, py_l640, py_l1280, py_neg, py_add, py_sub, py_mul, py_stO]
            refine py_ile (fun c => absurd c (by omega)) (fun _ => ?_)
            refine pr_carAt h.cnt (fun _ _ => ?_) (fun c => absurd c (by omega))
            simp only [Int.toNat_natCast]
            refine pr_trainOf (fun _ _ => ?_) (fun c => absurd c (by omega))
            refine pr_carAt h.cnt (fun _ _ => ?_) (fun c => absurd c (by omega))
            rw [e1]
            refine pr_trainOf (fun _ _ => ?_) (fun c => absurd c (by omega))
            rw [hp, h4]
            refine py_ieq (fun c => absurd c (by omega)) (fun _ => ?_)
            refine py_ieq (fun _ => ?_) (fun c => absurd ea c)
            have e2 : (k : Int) = (pr_off t a.toNat : Nat) := by
              rw [← ea, Int.toNat_natCast, h8, ← e2]
              omega
            rw [e2]
            exact h1 (by omega) (by omega)
          · obtain ⟨n, hn⟩ := hstep (f + 1) (by omega) (fun h11 h12 => by have := hfa h11 h12; omega)
            refine ⟨n + 1, ?_⟩
            unfold lX1_startOf_4
            try simp only [py_O_ap, py_l0, py_l1, py_l2, py_l3, py_l4, py_l5, py_l6, py_l7, py_l8, py_l9, py_l12, py_l16, py_l32, py_l40, py_l100, py_l640, py_l1280, py_neg, py_add, py_sub, py_mul, py_stO]
            refine py_ile (fun c => absurd c (by omega)) (fun _ => ?_)
            refine pr_carAt h.cnt (fun _ _ => ?_) (fun c => absurd c (by omega))
            simp only [Int.toNat_natCast]
            refine pr_trainOf (fun _ _ => ?_) (fun c => absurd c (by omega))
            refine pr_carAt h.cnt (fun _ _ => ?_) (fun c => absurd c (by omega))
            rw [e1]
            refine pr_trainOf (fun _ _ => ?_) (fun c => absurd c (by omega))
            rw [hp, h4]
            refine py_ieq (fun c => absurd c (by omega)) (fun _ => ?_)
            exact py_ieq (fun c => absurd c ea) (fun _ => hn)
  unfold eX1_startOf
  rw [py_l0]
  exact key (s 13 0).toNat 0 0 (by omega) (Or.inl ⟨rfl, rfl⟩) (fun c _ => c)
theorem pr_carsOf (h : pr_RW s t) {j : Nat} (hj : (j : Int) < t 50 0) (hK : K (py_O s) (py_o (t 41 j))) : eX1_carsOf (py_O s) (py_o (t 40 j)) K := by
  have hc0 := h.cnt
  have he := h.end_le hj
  have hsz := h.2.1 j hj
  have hnj := h.2.2.2.2.1 j hj
  have hmade := h.2.2.2.2.2.2.1
  have key : ∀ d k f : Nat, (k : Int) + d = s 13 0 → ((k ≤ pr_off t j ∧ f = 0) ∨ (pr_off t j ≤ k ∧ (k : Int) ≤ pr_off t j + t 41 j ∧ (f : Int) = k - pr_off t j) ∨ (pr_off t j + t 41 j ≤ (k : Int) ∧ (f : Int) = t 41 j)) → ∃ n9, lX1_carsOf_4 K n9 (py_o (t 40 j)) (py_o f) (py_o k) (py_O s) := by
    intro d
    induction d with
    | zero =>
      intro k f hk hf
      refine ⟨1, ?_⟩
      unfold lX1_carsOf_4
      try simp only [py_O_ap, py_l0, py_l1, py_l2, py_l3, py_l4, py_l5, py_l6, py_l7, py_l8, py_l9, py_l12, py_l16, py_l32, py_l40, py_l100, py_l640, py_l1280, py_neg, py_add, py_sub, py_mul, py_stO]
      refine py_ile (fun _ => ?_) (fun c => absurd c (by omega))
      have e : (f : Int) = t 41 j := by omega
      rw [e]; exact hK
    | succ d ih =>
      intro k f hk hf
      obtain ⟨hb, j', k', hj', hk', h2, h3, h4, h5, h6⟩ := h.car (i := k) (by omega)
      have hin := h.in_iff (j := j) (k := k) hj (by omega)
      by_cases e : s 6 (s 5 k).toNat = t 40 j
      · have e2 := hin.mp e
        obtain ⟨n, hn⟩ := ih (k + 1) (f + 1) (by omega) (by omega)
        refine ⟨n + 1, ?_⟩
        unfold lX1_carsOf_4
        try simp only [py_O_ap, py_l0, py_l1, py_l2, py_l3, py_l4, py_l5, py_l6, py_l7, py_l8, py_l9, py_l12, py_l16, py_l32, py_l40, py_l100, py_l640, py_l1280, py_neg, py_add, py_sub, py_mul, py_stO]
        refine py_ile (fun c => absurd c (by omega)) (fun _ => py_and ?_)
        rw [py_nat (by omega)]
        simp only [Int.toNat_natCast]
        refine pr_trainOf (fun _ _ => ?_) (fun c => absurd c (by omega))
        exact py_ieq (fun _ => hn) (fun c => absurd e c)
      · have e2 : ¬ (pr_off t j ≤ k ∧ (k : Int) < pr_off t j + t 41 j) := fun c => e (hin.mpr c)
        obtain ⟨n, hn⟩ := ih (k + 1) f (by omega) (by omega)
        refine ⟨n + 1, ?_⟩
        unfold lX1_carsOf_4
        try simp only [py_O_ap, py_l0, py_l1, py_l2, py_l3, py_l4, py_l5, py_l6, py_l7, py_l8, py_l9, py_l12, py_l16, py_l32, py_l40, py_l100, py_l640, py_l1280, py_neg, py_add, py_sub, py_mul, py_stO]
        refine py_ile (fun c => absurd c (by omega)) (fun _ => py_and ?_)
        rw [py_nat (by omega)]
        simp only [Int.toNat_natCast]
        refine pr_trainOf (fun _ _ => ?_) (fun c => absurd c (by omega))
        exact py_ieq (fun c => absurd c e) (fun _ => hn)
  unfold eX1_carsOf
  rw [py_l0]
  exact key (s 13 0).toNat 0 0 (by omega) (Or.inl ⟨Nat.zero_le _, rfl⟩)
theorem pr_lastCarOf (h : pr_RW s t) {j : Nat} (hj : (j : Int) < t 50 0) (hK : K (py_O s) (py_o (t 42 (40 * j + ((t 41 j).toNat - 1))))) : eX1_lastCarOf (py_O s) (py_o (t 40 j)) K := by
  have hc0 := h.cnt
  have he := h.end_le hj
  have hsz := h.2.1 j hj
  have hnj := h.2.2.2.2.1 j hj
  have hmade := h.2.2.2.2.2.2.1
  have key : ∀ d k : Nat, pr_off t j + (t 41 j).toNat - 1 + d = k → (k : Int) < s 13 0 → ∃ n9, lX1_lastCarOf_7 K n9 (py_o (t 40 j)) (py_o k) (py_O s) := by
    intro d
    induction d with
    | zero =>
      intro k hk hk2
      obtain ⟨hb, j', k', hj', hk', h2, h3, h4, h5, h6⟩ := h.car (i := k) (by omega)
      have hin := (h.in_iff (j := j) (k := k) hj (by omega)).mpr ⟨by omega, by omega⟩
      refine ⟨1, ?_⟩
      unfold lX1_lastCarOf_7
      try simp only [py_O_ap, py_l0, py_l1, py_l2, py_l3, py_l4, py_l5, py_l6, py_l7, py_l8, py_l9, py_l12, py_l16, py_l32, py_l40, py_l100, py_l640, py_l1280, py_neg, py_add, py_sub, py_mul, py_stO]
      refine py_ilt (fun c => absurd c (by omega)) (fun _ => py_and ?_)
      rw [py_nat (by omega)]
      simp only [Int.toNat_natCast]
      refine pr_trainOf (fun _ _ => ?_) (fun c => absurd c (by omega))
      rw [hin]
      refine py_ieq (fun _ => py_and ?_) (fun c => absurd rfl c)
      have e : s 5 k = t 42 (40 * j + ((t 41 j).toNat - 1)) := by
        have := (h.2.2.2.1 j ((t 41 j).toNat - 1) hj (by omega)).1
        rw [← this]
        congr 1
        omega
      simp only [py_O_ap]
      rw [e]; exact hK
    | succ d ih =>
      intro k hk hk2
      obtain ⟨hb, j', k', hj', hk', h2, h3, h4, h5, h6⟩ := h.car (i := k) (by omega)
      have hin : s 6 (s 5 k).toNat ≠ t 40 j := fun c => by
        have := (h.in_iff (j := j) (k := k) hj (by omega)).mp c
        omega
      obtain ⟨n, hn⟩ := ih (k - 1) (by omega) (by omega)
      refine ⟨n + 1, ?_⟩
      unfold lX1_lastCarOf_7
      try simp only [py_O_ap, py_l0, py_l1, py_l2, py_l3, py_l4, py_l5, py_l6, py_l7, py_l8, py_l9, py_l12, py_l16, py_l32, py_l40, py_l100, py_l640, py_l1280, py_neg, py_add, py_sub, py_mul, py_stO]
      refine py_ilt (fun c => absurd c (by omega)) (fun _ => py_and ?_)
      rw [py_nat (by omega)]
      simp only [Int.toNat_natCast]
      refine pr_trainOf (fun _ _ => ?_) (fun c => absurd c (by omega))
      refine py_ieq (fun c => absurd c hin) (fun _ => ?_)
      have e : ((k - 1 : Nat) : Int) = (k : Int) + -1 := by omega
      rw [e] at hn
      exact hn
  unfold eX1_lastCarOf
  try simp only [py_O_ap, py_l0, py_l1, py_l2, py_l3, py_l4, py_l5, py_l6, py_l7, py_l8, py_l9, py_l12, py_l16, py_l32, py_l40, py_l100, py_l640, py_l1280, py_neg, py_add, py_sub, py_mul, py_stO]
  have e : s 13 0 - 1 = (((s 13 0).toNat - 1 : Nat) : Int) := by omega
  rw [e]
  exact key ((s 13 0).toNat - 1 - (pr_off t j + (t 41 j).toNat - 1)) ((s 13 0).toNat - 1) (by omega) (by omega)
/-- where in the row a car stands -/
theorem pr_indexOf (h : pr_RW s t) {c : Int} (rc : -1 ≤ c ∧ c < 40) (h1 : ∀ i : Nat, (i : Int) < s 13 0 → s 5 i = c → K (py_O s) (py_o i)) (h0 : (∀ i : Nat, (i : Int) < s 13 0 → s 5 i ≠ c) → K (py_O s) (py_o (-1))) : eX1_indexOf (py_O s) (py_o c) K := by
  have hc0 := h.cnt
  have key : ∀ d k : Nat, (k : Int) + d = s 13 0 → (∀ i : Nat, i < k → s 5 i ≠ c) → ∃ n9, lX1_indexOf_2 K n9 (py_o c) (py_o k) (py_O s) := by
    intro d
    induction d with
    | zero =>
      intro k hk hz
      refine ⟨1, ?_⟩
      unfold lX1_indexOf_2
      try simp only [py_O_ap, py_l0, py_l1, py_l2, py_l3, py_l4, py_l5, py_l6, py_l7, py_l8, py_l9, py_l12, py_l16, py_l32, py_l40, py_l100, py_l640, py_l1280, py_neg, py_add, py_sub, py_mul, py_stO]
      exact py_ile (fun _ => h0 (fun i hi => hz i (by omega))) (fun c => absurd c (by omega))
    | succ d ih =>
      intro k hk hz
      have hb := (h.car (i := k) (by omega)).1
      by_cases e : s 5 k = c
      · refine ⟨1, ?_⟩
        unfold lX1_indexOf_2
        try simp only [py_O_ap, py_l0, py_l1, py_l2, py_l3, py_l4, py_l5, py_l6, py_l7, py_l8, py_l9, py_l12, py_l16, py_l32, py_l40, py_l100, py_l640, py_l1280, py_neg, py_add, py_sub, py_mul, py_stO]
        refine py_ile (fun c => absurd c (by omega)) (fun _ => py_and ?_)
        rw [py_nat (by omega)]
        simp only [Int.toNat_natCast]
        exact py_ieq (fun _ => h1 k (by omega) e) (fun c => absurd e c)
      · obtain ⟨n, hn⟩ := ih (k + 1) (by omega) (fun i hi => by
          by_cases e2 : i = k
          · rw [e2]; exact e
          · exact hz i (by omega))
        refine ⟨n + 1, ?_⟩
        unfold lX1_indexOf_2
        try simp only [py_O_ap, py_l0, py_l1, py_l2, py_l3, py_l4, py_l5, py_l6, py_l7, py_l8, py_l9, py_l12, py_l16, py_l32, py_l40, py_l100, py_l640, py_l1280, py_neg, py_add, py_sub, py_mul, py_stO]
        refine py_ile (fun c => absurd c (by omega)) (fun _ => py_and ?_)
        rw [py_nat (by omega)]
        simp only [Int.toNat_natCast]
        exact py_ieq (fun c => absurd c e) (fun _ => hn)
  unfold eX1_indexOf
  rw [py_l0]
  exact key (s 13 0).toNat 0 (by omega) (fun i hi => absurd hi (by omega))
end PRC

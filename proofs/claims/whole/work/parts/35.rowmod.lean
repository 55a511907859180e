/-! PURE: what the reference's trains answer -/
section PRM
variable {s t : py_Z} {K : ty_S → Int32 → Prop}
theorem pm_trainOf (h : pr_RW s t) {c : Nat} (hc : c < 40) (h1 : ∀ j : Nat, (j : Int) < t 50 0 → s 6 c = t 40 j → K (py_O t) (py_o j)) (h0 : s 6 c = 0 → K (py_O t) (py_o (-1))) : eX5_trainOf (py_O t) (py_o c) K := by
  have hn := h.1
  have hin : ∀ j : Nat, (j : Int) < t 50 0 → ∀ (R : Int32 → Int32 → ty_S → Prop), ((∀ k : Nat, (k : Int) < t 41 j → t 42 (40 * j + k) ≠ c) → R (py_o c) (py_o (j + 1)) (py_O t)) → ∀ d k : Nat, (k : Int) + d = t 41 j → (∀ i : Nat, i < k → t 42 (40 * j + i) ≠ c) → ∃ n9, lX5_trainOf_12 K R n9 (py_o c) (py_o j) (py_o k) (py_O t) := by
    intro j hj R hR d
    have hs := h.2.1 j hj
    induction d with
    | zero =>
      intro k hk hz
      refine ⟨1, ?_⟩
      unfold lX5_trainOf_12
      try simp only [py_O_ap, py_l0, py_l1, py_l2, py_l3, py_l4, py_l5, py_l6, py_l7, py_l8, py_l9, py_l12, py_l16, py_l32, py_l40, py_l100, py_l640, py_l1280, py_neg, py_add, py_sub, py_mul, py_stO]
      refine py_and ?_
      rw [py_nat (by omega)]
      simp only [Int.toNat_natCast]
      exact py_ile (fun _ => hR (fun i hi => hz i (by omega))) (fun c => absurd c (by omega))
    | succ d ih =>
      intro k hk hz
      obtain ⟨e1, e2, e3⟩ := h.2.2.2.1 j k hj (by omega)
      have e4 : ((40 : Int) * j + k).toNat = 40 * j + k := by omega
      by_cases e : t 42 (40 * j + k) = c
      · refine ⟨1, ?_⟩
        unfold lX5_trainOf_12
        try simp only [py_O_ap, py_l0, py_l1, py_l2, py_l3, py_l4, py_l5, py_l6, py_l7, py_l8, py_l9, py_l12, py_l16, py_l32, py_l40, py_l100, py_l640, py_l1280, py_neg, py_add, py_sub, py_mul, py_stO]
        refine py_and ?_
        rw [py_nat (by omega), py_nat (by omega), e4]
        simp only [Int.toNat_natCast]
        refine py_ile (fun c => absurd c (by omega)) (fun _ => py_and ?_)
        refine py_ieq (fun _ => h1 j hj ?_) (fun c => absurd e c)
        rw [e] at e3
        simpa using e3
      · obtain ⟨n, hn⟩ := ih (k + 1) (by omega) (fun i hi => by
          by_cases e5 : i = k
          · rw [e5]; exact e
          · exact hz i (by omega))
        refine ⟨n + 1, ?_⟩
        unfold lX5_trainOf_12
        try simp only [py_O_ap, py_l0, py_l1, py_l2, py_l3, py_l4, py_l5, py_l6, py_l7, py_l8, py_l9, py_l12, py_l16, py_l32, py_l40, py_l100, py_l640, py_l1280, py_neg, py_add, py_sub, py_mul, py_stO]
        refine py_and ?_
        rw [py_nat (by omega), py_nat (by omega), e4]
        simp only [Int.toNat_natCast]
        refine py_ile (fun c => absurd c (by omega)) (fun _ => py_and ?_)
        exact py_ieq (fun c => absurd c e) (fun _ => hn)
  have key : ∀ d j : Nat, (j : Int) + d = t 50 0 → (∀ i k : Nat, i < j → (k : Int) < t 41 i → t 42 (40 * i + k) ≠ c) → ∃ n9, lX5_trainOf_2 K n9 (py_o c) (py_o j) (py_O t) := by
    intro d
    induction d with
    | zero =>
      intro j hj hz
      refine ⟨1, ?_⟩
      unfold lX5_trainOf_2
      try simp only [py_O_ap, py_l0, py_l1, py_l2, py_l3, py_l4, py_l5, py_l6, py_l7, py_l8, py_l9, py_l12, py_l16, py_l32, py_l40, py_l100, py_l640, py_l1280, py_neg, py_add, py_sub, py_mul, py_stO]
      refine py_ile (fun _ => ?_) (fun c => absurd c (by omega))
      rcases h.six hc with e | ⟨j2, k, hj2, hk, e1, e2, e3, e4, e5⟩
      · exact h0 e
      · exact absurd e1 (hz j2 k (by omega) hk)
    | succ d ih =>
      intro j hj hz
      by_cases e : ∃ k : Nat, (k : Int) < t 41 j ∧ t 42 (40 * j + k) = c
      · obtain ⟨n, hn⟩ := hin j (by omega) (fun a0 a1 S9 => lX5_trainOf_2 K 0 a0 a1 S9) (fun hx => by
          obtain ⟨k, hk, e⟩ := e
          exact absurd e (hx k hk)) (t 41 j).toNat 0 (by have := h.2.1 j (by omega); omega) (fun i hi => absurd hi (by omega))
        refine ⟨1, ?_⟩
        unfold lX5_trainOf_2
        try simp only [py_O_ap, py_l0, py_l1, py_l2, py_l3, py_l4, py_l5, py_l6, py_l7, py_l8, py_l9, py_l12, py_l16, py_l32, py_l40, py_l100, py_l640, py_l1280, py_neg, py_add, py_sub, py_mul, py_stO]
        exact py_ile (fun c => absurd c (by omega)) (fun _ => ⟨n, hn⟩)
      · obtain ⟨n0, hn0⟩ := ih (j + 1) (by omega) (fun i k hi hk e2 => by
          by_cases e3 : i = j
          · subst e3; exact e ⟨k, hk, e2⟩
          · exact hz i k (by omega) hk e2)
        obtain ⟨n, hn⟩ := hin j (by omega) (fun a0 a1 S9 => lX5_trainOf_2 K n0 a0 a1 S9) (fun _ => hn0) (t 41 j).toNat 0 (by have := h.2.1 j (by omega); omega) (fun i hi => absurd hi (by omega))
        refine ⟨n0 + 1, ?_⟩
        unfold lX5_trainOf_2
        try simp only [py_O_ap, py_l0, py_l1, py_l2, py_l3, py_l4, py_l5, py_l6, py_l7, py_l8, py_l9, py_l12, py_l16, py_l32, py_l40, py_l100, py_l640, py_l1280, py_neg, py_add, py_sub, py_mul, py_stO]
        exact py_ile (fun c => absurd c (by omega)) (fun _ => ⟨n, hn⟩)
  unfold eX5_trainOf
  rw [py_l0]
  exact key (t 50 0).toNat 0 (by omega) (fun i k hi => absurd hi (by omega))
theorem pm_freeCar (h : pr_RW s t) (h1 : ∀ c : Nat, c < 40 → s 6 c = 0 → (∀ d : Nat, d < c → s 6 d ≠ 0) → K (py_O t) (py_o c)) (h0 : (∀ d : Nat, d < 40 → s 6 d ≠ 0) → K (py_O t) (py_o (-1))) : eX5_freeCar (py_O t) K := by
  have key : ∀ d c : Nat, c + d = 40 → (∀ e : Nat, e < c → s 6 e ≠ 0) → ∃ n, lX5_freeCar_2 K n (py_o c) (py_O t) := by
    intro d
    induction d with
    | zero =>
      intro c hc hd
      refine ⟨1, ?_⟩
      unfold lX5_freeCar_2
      try simp only [py_O_ap, py_l0, py_l1, py_l2, py_l3, py_l4, py_l5, py_l6, py_l7, py_l8, py_l9, py_l12, py_l16, py_l32, py_l40, py_l100, py_l640, py_l1280, py_neg, py_add, py_sub, py_mul, py_stO]
      exact py_ile (fun _ => h0 (fun e he => hd e (by omega))) (fun c2 => absurd c2 (by omega))
    | succ d ih =>
      intro c hc hd
      have hn := h.1
      by_cases e : s 6 c = 0
      · refine ⟨1, ?_⟩
        unfold lX5_freeCar_2
        try simp only [py_O_ap, py_l0, py_l1, py_l2, py_l3, py_l4, py_l5, py_l6, py_l7, py_l8, py_l9, py_l12, py_l16, py_l32, py_l40, py_l100, py_l640, py_l1280, py_neg, py_add, py_sub, py_mul, py_stO]
        refine py_ile (fun _ => absurd hc (by omega)) (fun c2 => ?_)
        refine pm_trainOf h (by omega) (fun j hj e2 => ?_) (fun _ => ?_)
        · have := h.2.2.2.2.1 j hj; omega
        · exact py_ile (fun c => absurd c (by omega)) (fun _ => h1 c (by omega) e hd)
      · obtain ⟨n, hn⟩ := ih (c + 1) (by omega) (fun e2 he => by
          by_cases e3 : e2 = c
          · rw [e3]; exact e
          · exact hd e2 (by omega))
        refine ⟨n + 1, ?_⟩
        unfold lX5_freeCar_2
        try simp only [py_O_ap, py_l0, py_l1, py_l2, py_l3, py_l4, py_l5, py_l6, py_l7, py_l8, py_l9, py_l12, py_l16, py_l32, py_l40, py_l100, py_l640, py_l1280, py_neg, py_add, py_sub, py_mul, py_stO]
        refine py_ile (fun _ => absurd hc (by omega)) (fun c2 => ?_)
        refine pm_trainOf h (by omega) (fun j hj e2 => ?_) (fun c => absurd c e)
        exact py_ile (fun _ => hn) (fun c => absurd c (by omega))
  unfold eX5_freeCar
  rw [py_l0]
  exact key 40 0 rfl (fun e he => absurd he (by omega))
theorem pm_freeCars (h : pr_RW s t) (hK : K (py_O t) (py_o (40 - s 13 0))) : eX5_freeCars (py_O t) K := by
  have hn := h.1
  have hc := h.2.2.1
  have key : ∀ d j : Nat, (j : Int) + d = t 50 0 → ∃ n, lX5_freeCars_5 K n (py_o (40 - pr_off t j)) (py_o j) (py_O t) := by
    intro d
    induction d with
    | zero =>
      intro j hj
      refine ⟨1, ?_⟩
      unfold lX5_freeCars_5
      try simp only [py_O_ap, py_l0, py_l1, py_l2, py_l3, py_l4, py_l5, py_l6, py_l7, py_l8, py_l9, py_l12, py_l16, py_l32, py_l40, py_l100, py_l640, py_l1280, py_neg, py_add, py_sub, py_mul, py_stO]
      refine py_ile (fun _ => ?_) (fun c2 => absurd c2 (by omega))
      have e : (t 50 0).toNat = j := by omega
      rw [e] at hc
      rw [hc.1]
      exact hK
    | succ d ih =>
      intro j hj
      obtain ⟨n, hn⟩ := ih (j + 1) (by omega)
      have hs := h.2.1 j (by omega)
      refine ⟨n + 1, ?_⟩
      unfold lX5_freeCars_5
      try simp only [py_O_ap, py_l0, py_l1, py_l2, py_l3, py_l4, py_l5, py_l6, py_l7, py_l8, py_l9, py_l12, py_l16, py_l32, py_l40, py_l100, py_l640, py_l1280, py_neg, py_add, py_sub, py_mul, py_stO]
      refine py_ile (fun c => absurd c (by omega)) (fun _ => py_and ?_)
      rw [py_nat (by omega)]
      simp only [Int.toNat_natCast]
      try simp only [py_O_ap, py_l0, py_l1, py_l2, py_l3, py_l4, py_l5, py_l6, py_l7, py_l8, py_l9, py_l12, py_l16, py_l32, py_l40, py_l100, py_l640, py_l1280, py_neg, py_add, py_sub, py_mul, py_stO]
      have e : (40 : Int) - (pr_off t (j + 1) : Nat) = 40 - pr_off t j - t 41 j := by
        have h2 : pr_off t (j + 1) = pr_off t j + (t 41 j).toNat := rfl
        omega
      rw [e] at hn
      exact hn
  unfold eX5_freeCars
  try simp only [py_O_ap, py_l0, py_l1, py_l2, py_l3, py_l4, py_l5, py_l6, py_l7, py_l8, py_l9, py_l12, py_l16, py_l32, py_l40, py_l100, py_l640, py_l1280, py_neg, py_add, py_sub, py_mul, py_stO]
  exact key (t 50 0).toNat 0 (by omega)
theorem pm_lastCar (h : pr_RW s t) {j : Nat} (hj : (j : Int) < t 50 0) (hK : K (py_O t) (py_o (t 42 (40 * j + ((t 41 j).toNat - 1))))) : eX5_lastCar (py_O t) (py_o j) K := by
  have hs := h.2.1 j hj
  have hn := h.1
  unfold eX5_lastCar
  try simp only [py_O_ap, py_l0, py_l1, py_l2, py_l3, py_l4, py_l5, py_l6, py_l7, py_l8, py_l9, py_l12, py_l16, py_l32, py_l40, py_l100, py_l640, py_l1280, py_neg, py_add, py_sub, py_mul, py_stO]
  refine py_and ?_
  rw [py_nat (by omega)]
  simp only [Int.toNat_natCast]
  try simp only [py_O_ap, py_l0, py_l1, py_l2, py_l3, py_l4, py_l5, py_l6, py_l7, py_l8, py_l9, py_l12, py_l16, py_l32, py_l40, py_l100, py_l640, py_l1280, py_neg, py_add, py_sub, py_mul, py_stO]
  refine py_and ?_
  rw [py_nat (by omega)]
  have e : ((40 : Int) * j + t 41 j - 1).toNat = 40 * j + ((t 41 j).toNat - 1) := by omega
  rw [e]
  exact hK
theorem pm_rank (h : pr_RW s t) {j k : Nat} (hj : (j : Int) < t 50 0) (hk : (k : Int) < t 41 j) (hK : K (py_O t) (py_o (pr_off t j + k : Nat))) : eX5_rank (py_O t) (py_o (t 42 (40 * j + k))) K := by
  have hn := h.1
  have hcn := h.cnt
  obtain ⟨e1, e2, e3⟩ := h.2.2.2.1 j k hj hk
  have hin : ∀ i : Nat, (i : Int) < t 50 0 → ∀ (R : Int32 → Int32 → Int32 → ty_S → Prop), (i < j → R (py_o (t 42 (40 * j + k))) (py_o (pr_off t (i + 1))) (py_o (i + 1)) (py_O t)) → i ≤ j → ∀ d x : Nat, (x : Int) + d = t 41 i → (i = j → x ≤ k) → ∃ n9, lX5_rank_15 K R n9 (py_o (t 42 (40 * j + k))) (py_o (pr_off t i + x : Nat)) (py_o i) (py_o x) (py_O t) := by
    intro i hi R hR hij d
    have hs := h.2.1 i hi
    have hel := h.end_le hi
    induction d with
    | zero =>
      intro x hx hz
      refine ⟨1, ?_⟩
      unfold lX5_rank_15
      try simp only [py_O_ap, py_l0, py_l1, py_l2, py_l3, py_l4, py_l5, py_l6, py_l7, py_l8, py_l9, py_l12, py_l16, py_l32, py_l40, py_l100, py_l640, py_l1280, py_neg, py_add, py_sub, py_mul, py_stO]
      refine py_and ?_
      rw [py_nat (by omega)]
      simp only [Int.toNat_natCast]
      refine py_ile (fun _ => ?_) (fun c => absurd c (by omega))
      have e5 : i < j := by
        rcases Nat.lt_or_eq_of_le hij with e6 | e6
        · exact e6
        · have := hz e6; subst e6; omega
      have e6 : pr_off t i + x = pr_off t (i + 1) := by
        have h2 : pr_off t (i + 1) = pr_off t i + (t 41 i).toNat := rfl
        omega
      rw [e6]
      exact hR e5
    | succ d ih =>
      intro x hx hz
      obtain ⟨f1, f2, f3⟩ := h.2.2.2.1 i x hi (by omega)
      have e4 : ((40 : Int) * i + x).toNat = 40 * i + x := by omega
      by_cases e : t 42 (40 * i + x) = t 42 (40 * j + k)
      · obtain ⟨e5, e6⟩ := h.inj2 hi (by omega) hj hk e
        refine ⟨1, ?_⟩
        unfold lX5_rank_15
        try simp only [py_O_ap, py_l0, py_l1, py_l2, py_l3, py_l4, py_l5, py_l6, py_l7, py_l8, py_l9, py_l12, py_l16, py_l32, py_l40, py_l100, py_l640, py_l1280, py_neg, py_add, py_sub, py_mul, py_stO]
        refine py_and ?_
        rw [py_nat (by omega), py_nat (by omega), e4]
        simp only [Int.toNat_natCast]
        refine py_ile (fun c => absurd c (by omega)) (fun _ => py_and ?_)
        refine py_ieq (fun _ => ?_) (fun c => absurd e c)
        rw [e5, e6]; exact hK
      · obtain ⟨n, hn⟩ := ih (x + 1) (by omega) (fun e7 => by
          have := hz e7
          rcases Nat.lt_or_eq_of_le this with e8 | e8
          · omega
          · subst e7; subst e8; exact absurd rfl e)
        refine ⟨n + 1, ?_⟩
        unfold lX5_rank_15
        try simp only [py_O_ap, py_l0, py_l1, py_l2, py_l3, py_l4, py_l5, py_l6, py_l7, py_l8, py_l9, py_l12, py_l16, py_l32, py_l40, py_l100, py_l640, py_l1280, py_neg, py_add, py_sub, py_mul, py_stO]
        refine py_and ?_
        rw [py_nat (by omega), py_nat (by omega), e4]
        simp only [Int.toNat_natCast]
        refine py_ile (fun c => absurd c (by omega)) (fun _ => py_and ?_)
        refine py_ieq (fun c => absurd c e) (fun _ => ?_)
        have e5 : ((pr_off t i + (x + 1) : Nat) : Int) = ((pr_off t i + x : Nat) : Int) + 1 := by omega
        rw [e5] at hn
        exact hn
  have key : ∀ d i : Nat, i + d = j → ∃ n9, lX5_rank_4 K n9 (py_o (t 42 (40 * j + k))) (py_o (pr_off t i)) (py_o i) (py_O t) := by
    intro d
    induction d with
    | zero =>
      intro i hi
      obtain ⟨n, hn⟩ := hin i (by omega) (fun a0 a1 a2 S9 => lX5_rank_4 K 0 a0 a1 a2 S9) (fun c => absurd c (by omega)) (by omega) (t 41 i).toNat 0 (by have := h.2.1 i (by omega); omega) (fun _ => Nat.zero_le _)
      refine ⟨1, ?_⟩
      unfold lX5_rank_4
      try simp only [py_O_ap, py_l0, py_l1, py_l2, py_l3, py_l4, py_l5, py_l6, py_l7, py_l8, py_l9, py_l12, py_l16, py_l32, py_l40, py_l100, py_l640, py_l1280, py_neg, py_add, py_sub, py_mul, py_stO]
      exact py_ile (fun c => absurd c (by omega)) (fun _ => ⟨n, hn⟩)
    | succ d ih =>
      intro i hi
      obtain ⟨n0, hn0⟩ := ih (i + 1) (by omega)
      obtain ⟨n, hn⟩ := hin i (by omega) (fun a0 a1 a2 S9 => lX5_rank_4 K n0 a0 a1 a2 S9) (fun _ => hn0) (by omega) (t 41 i).toNat 0 (by have := h.2.1 i (by omega); omega) (fun _ => Nat.zero_le _)
      refine ⟨n0 + 1, ?_⟩
      unfold lX5_rank_4
      try simp only [py_O_ap, py_l0, py_l1, py_l2, py_l3, py_l4, py_l5, py_l6, py_l7, py_l8, py_l9, py_l12, py_l16, py_l32, py_l40, py_l100, py_l640, py_l1280, py_neg, py_add, py_sub, py_mul, py_stO]
      exact py_ile (fun c => absurd c (by omega)) (fun _ => ⟨n, hn⟩)
  unfold eX5_rank
  rw [py_l0]
  exact key j 0 (by omega)
end PRM

/-! PURE: the class's small methods -/
theorem pr_isPlace {s : py_Z} {a : Int} {K : ty_S → Int32 → Prop} (h1 : 0 ≤ a → a < 1280 → K (py_O s) (py_o 1)) (h0 : (a < 0 ∨ 1280 ≤ a) → K (py_O s) (py_o 0)) (ra : -2147483648 ≤ a ∧ a < 2147483648 := by omega) : eX4_isPlace (py_O s) (py_o a) K := by
  unfold eX4_isPlace
  try simp only [py_O_ap, py_l0, py_l1, py_l2, py_l3, py_l4, py_l5, py_l6, py_l7, py_l8, py_l9, py_l12, py_l16, py_l32, py_l40, py_l100, py_l640, py_l1280, py_neg, py_add, py_sub, py_mul, py_stO]
  refine py_ilt (fun c => h0 (by omega)) (fun c => py_ile (fun c2 => h0 (by omega)) (fun c2 => h1 (by omega) (by omega)))
theorem pr_isCar {s : py_Z} {a : Int} {K : ty_S → Int32 → Prop} (h1 : 0 ≤ a → a < 40 → K (py_O s) (py_o 1)) (h0 : (a < 0 ∨ 40 ≤ a) → K (py_O s) (py_o 0)) (ra : -2147483648 ≤ a ∧ a < 2147483648 := by omega) : eX4_isCar (py_O s) (py_o a) K := by
  unfold eX4_isCar
  try simp only [py_O_ap, py_l0, py_l1, py_l2, py_l3, py_l4, py_l5, py_l6, py_l7, py_l8, py_l9, py_l12, py_l16, py_l32, py_l40, py_l100, py_l640, py_l1280, py_neg, py_add, py_sub, py_mul, py_stO]
  refine py_ilt (fun c => h0 (by omega)) (fun c => py_ile (fun c2 => h0 (by omega)) (fun c2 => h1 (by omega) (by omega)))
theorem pr_isAmount {s : py_Z} {a : Int} {K : ty_S → Int32 → Prop} (h1 : 0 ≤ a → a ≤ 12 → K (py_O s) (py_o 1)) (h0 : (a < 0 ∨ 12 < a) → K (py_O s) (py_o 0)) (ra : -2147483648 ≤ a ∧ a < 2147483648 := by omega) : eX4_isAmount (py_O s) (py_o a) K := by
  unfold eX4_isAmount
  try simp only [py_O_ap, py_l0, py_l1, py_l2, py_l3, py_l4, py_l5, py_l6, py_l7, py_l8, py_l9, py_l12, py_l16, py_l32, py_l40, py_l100, py_l640, py_l1280, py_neg, py_add, py_sub, py_mul, py_stO]
  refine py_ilt (fun c => h0 (by omega)) (fun c => py_ilt (fun c2 => h0 (by omega)) (fun c2 => h1 (by omega) (by omega)))
theorem pr_carOf {s : py_Z} {a : Int} {K : ty_S → Int32 → Prop} (h1 : 0 ≤ a → a < 1280 → K (py_O s) (py_o (a / 32))) (h0 : (a < 0 ∨ 1280 ≤ a) → K (py_O s) (py_o (-1))) (ra : -2147483648 ≤ a ∧ a < 2147483648 := by omega) : eX4_carOf (py_O s) (py_o a) K := by
  unfold eX4_carOf
  try simp only [py_O_ap, py_l0, py_l1, py_l2, py_l3, py_l4, py_l5, py_l6, py_l7, py_l8, py_l9, py_l12, py_l16, py_l32, py_l40, py_l100, py_l640, py_l1280, py_neg, py_add, py_sub, py_mul, py_stO]
  refine pr_isPlace (fun c1 c2 => ?_) (fun c => ?_)
  · refine py_ieq (fun e => absurd e (by omega)) (fun _ => ?_)
    rw [py_div (by omega) (by omega)]
    exact h1 c1 c2
  · exact py_ieq (fun _ => h0 c) (fun e => absurd rfl e)
theorem pr_at {s : py_Z} {a : Int} {K : ty_S → Int32 → Prop} (h1 : 0 ≤ a → a < 1280 → K (py_O s) (py_o (s 0 a.toNat))) (h0 : (a < 0 ∨ 1280 ≤ a) → K (py_O s) (py_o 0)) (ra : -2147483648 ≤ a ∧ a < 2147483648 := by omega) : eX0_at (py_O s) (py_o a) K := by
  unfold eX0_at
  try simp only [py_O_ap, py_l0, py_l1, py_l2, py_l3, py_l4, py_l5, py_l6, py_l7, py_l8, py_l9, py_l12, py_l16, py_l32, py_l40, py_l100, py_l640, py_l1280, py_neg, py_add, py_sub, py_mul, py_stO]
  refine py_ilt (fun c => h0 (by omega)) (fun c => py_ile (fun c2 => h0 (by omega)) (fun c2 => py_and ?_))
  rw [py_nat ra]
  exact h1 (by omega) (by omega)
theorem pr_room {s : py_Z} {a : Int} {K : ty_S → Int32 → Prop} (h1 : 0 ≤ a → a < 40 → K (py_O s) (py_o (32 - s 2 a.toNat))) (h0 : (a < 0 ∨ 40 ≤ a) → K (py_O s) (py_o 0)) (ra : -2147483648 ≤ a ∧ a < 2147483648 := by omega) : eX0_room (py_O s) (py_o a) K := by
  unfold eX0_room
  try simp only [py_O_ap, py_l0, py_l1, py_l2, py_l3, py_l4, py_l5, py_l6, py_l7, py_l8, py_l9, py_l12, py_l16, py_l32, py_l40, py_l100, py_l640, py_l1280, py_neg, py_add, py_sub, py_mul, py_stO]
  refine py_ilt (fun c => h0 (by omega)) (fun c => py_ile (fun c2 => h0 (by omega)) (fun c2 => py_and ?_))
  rw [py_nat ra]
  exact h1 (by omega) (by omega)
theorem pr_things {s : py_Z} {a : Int} {K : ty_S → Int32 → Prop} (h1 : 0 ≤ a → a < 40 → K (py_O s) (py_o (s 3 a.toNat))) (h0 : (a < 0 ∨ 40 ≤ a) → K (py_O s) (py_o 0)) (ra : -2147483648 ≤ a ∧ a < 2147483648 := by omega) : eX0_things (py_O s) (py_o a) K := by
  unfold eX0_things
  try simp only [py_O_ap, py_l0, py_l1, py_l2, py_l3, py_l4, py_l5, py_l6, py_l7, py_l8, py_l9, py_l12, py_l16, py_l32, py_l40, py_l100, py_l640, py_l1280, py_neg, py_add, py_sub, py_mul, py_stO]
  refine pr_isCar (fun c1 c2 => ?_) (fun c => ?_)
  · refine py_ieq (fun e => absurd e (by omega)) (fun _ => py_and ?_)
    rw [py_nat ra]
    exact h1 c1 c2
  · exact py_ieq (fun _ => h0 c) (fun e => absurd rfl e)
theorem pr_write {s : py_Z} {a v : Int} {K : ty_S → Prop} (h1 : 0 ≤ a → a < 1280 → K (py_O (py_st s 0 a.toNat v))) (h0 : (a < 0 ∨ 1280 ≤ a) → K (py_O s)) (ra : -2147483648 ≤ a ∧ a < 2147483648 := by omega) : eX0_write (py_O s) (py_o a) (py_o v) K := by
  unfold eX0_write
  try simp only [py_O_ap, py_l0, py_l1, py_l2, py_l3, py_l4, py_l5, py_l6, py_l7, py_l8, py_l9, py_l12, py_l16, py_l32, py_l40, py_l100, py_l640, py_l1280, py_neg, py_add, py_sub, py_mul, py_stO]
  refine py_ilt (fun c => h0 (by omega)) (fun c => py_ile (fun c2 => h0 (by omega)) (fun c2 => py_and ?_))
  rw [py_nat ra]
  exact h1 (by omega) (by omega)
theorem pr_labelOf {s : py_Z} {a : Int} {K : ty_S → Int32 → Prop} (h1 : 0 ≤ a → a < 1280 → K (py_O s) (py_o (s 0 a.toNat))) (h0 : (a < 0 ∨ 1280 ≤ a) → K (py_O s) (py_o 0)) (ra : -2147483648 ≤ a ∧ a < 2147483648 := by omega) : eX0_labelOf (py_O s) (py_o a) K := by
  unfold eX0_labelOf
  exact pr_at h1 h0
/-- a thing's two amounts, out of one word -/
theorem pr_mod {v r n : Int} (hv : v = r + 16 * n) (h0 : 0 ≤ r) (h1 : r < 16) (h2 : 0 ≤ n) (h3 : n < 1000) : py_o v / py_o 16 = py_o n := by
  rw [py_div (by omega) (by omega)]
  have : v / 16 = n := by omega
  rw [this]
theorem pr_references {s : py_Z} {a r n : Int} {K : ty_S → Int32 → Prop} (ha : 0 ≤ a) (ha2 : a < 1279) (hv : s 0 (a + 1).toNat = r + 16 * n) (h0 : 0 ≤ r) (h1 : r < 16) (h2 : 0 ≤ n) (h3 : n < 1000) (h : K (py_O s) (py_o r)) : eX0_references (py_O s) (py_o a) K := by
  unfold eX0_references
  try simp only [py_O_ap, py_l0, py_l1, py_l2, py_l3, py_l4, py_l5, py_l6, py_l7, py_l8, py_l9, py_l12, py_l16, py_l32, py_l40, py_l100, py_l640, py_l1280, py_neg, py_add, py_sub, py_mul, py_stO]
  refine pr_at (fun _ _ => ?_) (fun c => absurd c (by omega))
  rw [pr_mod hv h0 h1 h2 h3]
  try simp only [py_O_ap, py_l0, py_l1, py_l2, py_l3, py_l4, py_l5, py_l6, py_l7, py_l8, py_l9, py_l12, py_l16, py_l32, py_l40, py_l100, py_l640, py_l1280, py_neg, py_add, py_sub, py_mul, py_stO]
  have e : s 0 (a + 1).toNat - n * 16 = r := by omega
  rw [e]; exact h
theorem pr_numbers {s : py_Z} {a r n : Int} {K : ty_S → Int32 → Prop} (ha : 0 ≤ a) (ha2 : a < 1279) (hv : s 0 (a + 1).toNat = r + 16 * n) (h0 : 0 ≤ r) (h1 : r < 16) (h2 : 0 ≤ n) (h3 : n < 1000) (h : K (py_O s) (py_o n)) : eX0_numbers (py_O s) (py_o a) K := by
  unfold eX0_numbers
  try simp only [py_O_ap, py_l0, py_l1, py_l2, py_l3, py_l4, py_l5, py_l6, py_l7, py_l8, py_l9, py_l12, py_l16, py_l32, py_l40, py_l100, py_l640, py_l1280, py_neg, py_add, py_sub, py_mul, py_stO]
  refine pr_at (fun _ _ => ?_) (fun c => absurd c (by omega))
  rw [pr_mod hv h0 h1 h2 h3]
  exact h
theorem pr_size {s : py_Z} {a r n : Int} {K : ty_S → Int32 → Prop} (ha : 0 ≤ a) (ha2 : a < 1279) (hv : s 0 (a + 1).toNat = r + 16 * n) (h0 : 0 ≤ r) (h1 : r < 16) (h2 : 0 ≤ n) (h3 : n < 1000) (h : K (py_O s) (py_o (2 + r + n))) : eX0_size (py_O s) (py_o a) K := by
  unfold eX0_size
  try simp only [py_O_ap, py_l0, py_l1, py_l2, py_l3, py_l4, py_l5, py_l6, py_l7, py_l8, py_l9, py_l12, py_l16, py_l32, py_l40, py_l100, py_l640, py_l1280, py_neg, py_add, py_sub, py_mul, py_stO]
  refine pr_at (fun _ _ => ?_) (fun c => absurd c (by omega))
  rw [pr_mod hv h0 h1 h2 h3]
  try simp only [py_O_ap, py_l0, py_l1, py_l2, py_l3, py_l4, py_l5, py_l6, py_l7, py_l8, py_l9, py_l12, py_l16, py_l32, py_l40, py_l100, py_l640, py_l1280, py_neg, py_add, py_sub, py_mul, py_stO]
  have e : 2 + (s 0 (a + 1).toNat - n * 16) + n = 2 + r + n := by omega
  rw [e]; exact h
theorem pr_lastLabel {s : py_Z} {a : Int} {K : ty_S → Int32 → Prop} (ha : 0 ≤ a) (ha2 : a < 40) (hr : 0 ≤ s 3 a.toNat ∧ s 3 a.toNat < 100) (h0 : s 3 a.toNat = 0 → K (py_O s) (py_o 0)) (h1 : s 3 a.toNat ≠ 0 → (0 ≤ s 4 a.toNat ∧ s 4 a.toNat < 1280) ∧ K (py_O s) (py_o (s 0 (s 4 a.toNat).toNat))) : eX0_lastLabel (py_O s) (py_o a) K := by
  unfold eX0_lastLabel
  try simp only [py_O_ap, py_l0, py_l1, py_l2, py_l3, py_l4, py_l5, py_l6, py_l7, py_l8, py_l9, py_l12, py_l16, py_l32, py_l40, py_l100, py_l640, py_l1280, py_neg, py_add, py_sub, py_mul, py_stO]
  refine pr_things (fun _ _ => ?_) (fun c => absurd c (by omega))
  refine py_ieq h0 (fun c => py_and ?_)
  rw [py_nat (by omega)]
  have := h1 c
  exact pr_labelOf (fun _ _ => this.2) (fun c => absurd c (by omega))
/-! the row -/
theorem pr_carAt {s : py_Z} {a : Int} {K : ty_S → Int32 → Prop} (hc : 0 ≤ s 13 0 ∧ s 13 0 ≤ 40) (h1 : 0 ≤ a → a < s 13 0 → K (py_O s) (py_o (s 5 a.toNat))) (h0 : (a < 0 ∨ s 13 0 ≤ a) → K (py_O s) (py_o (-1))) (ra : -2147483648 ≤ a ∧ a < 2147483648 := by omega) : eX1_carAt (py_O s) (py_o a) K := by
  unfold eX1_carAt
  try simp only [py_O_ap, py_l0, py_l1, py_l2, py_l3, py_l4, py_l5, py_l6, py_l7, py_l8, py_l9, py_l12, py_l16, py_l32, py_l40, py_l100, py_l640, py_l1280, py_neg, py_add, py_sub, py_mul, py_stO]
  refine py_ilt (fun c => h0 (by omega)) (fun c => py_ile (fun c2 => h0 (by omega)) (fun c2 => py_and ?_))
  rw [py_nat ra]
  exact h1 (by omega) (by omega)
theorem pr_trainOf {s : py_Z} {a : Int} {K : ty_S → Int32 → Prop} (h1 : 0 ≤ a → a < 40 → K (py_O s) (py_o (s 6 a.toNat))) (h0 : (a < 0 ∨ 40 ≤ a) → K (py_O s) (py_o 0)) (ra : -2147483648 ≤ a ∧ a < 2147483648 := by omega) : eX1_trainOf (py_O s) (py_o a) K := by
  unfold eX1_trainOf
  try simp only [py_O_ap, py_l0, py_l1, py_l2, py_l3, py_l4, py_l5, py_l6, py_l7, py_l8, py_l9, py_l12, py_l16, py_l32, py_l40, py_l100, py_l640, py_l1280, py_neg, py_add, py_sub, py_mul, py_stO]
  refine py_ilt (fun c => h0 (by omega)) (fun c => py_ile (fun c2 => h0 (by omega)) (fun c2 => py_and ?_))
  rw [py_nat ra]
  exact h1 (by omega) (by omega)
theorem pr_countFree {s : py_Z} {K : ty_S → Int32 → Prop} (h : K (py_O s) (py_o (40 - s 13 0))) : eX1_countFree (py_O s) K := by
  unfold eX1_countFree
  try simp only [py_O_ap, py_l0, py_l1, py_l2, py_l3, py_l4, py_l5, py_l6, py_l7, py_l8, py_l9, py_l12, py_l16, py_l32, py_l40, py_l100, py_l640, py_l1280, py_neg, py_add, py_sub, py_mul, py_stO]
  exact h
theorem pr_leastFree {s : py_Z} {K : ty_S → Int32 → Prop} (h6 : ∀ c : Nat, c < 40 → 0 ≤ s 6 c ∧ s 6 c < 2147483648) (h1 : ∀ c : Nat, c < 40 → s 6 c = 0 → (∀ d : Nat, d < c → s 6 d ≠ 0) → K (py_O s) (py_o c)) (h0 : (∀ d : Nat, d < 40 → s 6 d ≠ 0) → K (py_O s) (py_o (-1))) : eX1_leastFree (py_O s) K := by
  have key : ∀ d c : Nat, c + d = 40 → (∀ e : Nat, e < c → s 6 e ≠ 0) → ∃ n, lX1_leastFree_2 K n (py_o c) (py_O s) := by
    intro d
    induction d with
    | zero =>
      intro c hc hd
      refine ⟨1, ?_⟩
      unfold lX1_leastFree_2
      try simp only [py_O_ap, py_l0, py_l1, py_l2, py_l3, py_l4, py_l5, py_l6, py_l7, py_l8, py_l9, py_l12, py_l16, py_l32, py_l40, py_l100, py_l640, py_l1280, py_neg, py_add, py_sub, py_mul, py_stO]
      refine py_ile (fun _ => h0 (fun e he => hd e (by omega))) (fun c2 => absurd c2 (by omega))
    | succ d ih =>
      intro c hc hd
      by_cases e : s 6 c = 0
      · refine ⟨1, ?_⟩
        unfold lX1_leastFree_2
        try simp only [py_O_ap, py_l0, py_l1, py_l2, py_l3, py_l4, py_l5, py_l6, py_l7, py_l8, py_l9, py_l12, py_l16, py_l32, py_l40, py_l100, py_l640, py_l1280, py_neg, py_add, py_sub, py_mul, py_stO]
        refine py_ile (fun _ => absurd hc (by omega)) (fun c2 => py_and ?_)
        rw [py_nat (by omega)]
        simp only [Int.toNat_natCast]
        have := h6 c (by omega)
        exact py_ieq (fun _ => h1 c (by omega) e hd) (fun c3 => absurd e c3)
      · obtain ⟨n, hn⟩ := ih (c + 1) (by omega) (fun e2 he => by
          by_cases e3 : e2 = c
          · rw [e3]; exact e
          · exact hd e2 (by omega))
        refine ⟨n + 1, ?_⟩
        unfold lX1_leastFree_2
        try simp only [py_O_ap, py_l0, py_l1, py_l2, py_l3, py_l4, py_l5, py_l6, py_l7, py_l8, py_l9, py_l12, py_l16, py_l32, py_l40, py_l100, py_l640, py_l1280, py_neg, py_add, py_sub, py_mul, py_stO]
        refine py_ile (fun _ => absurd hc (by omega)) (fun c2 => py_and ?_)
        rw [py_nat (by omega)]
        simp only [Int.toNat_natCast]
        have := h6 c (by omega)
        exact py_ieq (fun c3 => absurd c3 e) (fun c3 => hn)
  unfold eX1_leastFree
  rw [py_l0]
  exact key 40 0 rfl (fun e he => absurd he (by omega))

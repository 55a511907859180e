/-! PURE: what lies in the cars -/
def pr_IR (s : py_Z) : Prop := (∀ p : Nat, p < 1280 → (s 1 p = 0 ∨ s 1 p = 1) ∧ (s 1 p ≠ 0 → ((p % 32 : Nat) : Int) < s 2 (p / 32))) ∧ ∀ c : Nat, c < 40 → 0 ≤ s 2 c ∧ s 2 c ≤ 32
theorem pr_next {s : py_Z} {a : Nat} {K : ty_S → Int32 → Prop} (hI : pr_IR s) (ha : a ≤ 1280) (h1 : ∀ q : Nat, a ≤ q → q < 1280 → s 1 q = 1 → (∀ p : Nat, a ≤ p → p < q → s 1 p = 0) → K (py_O s) (py_o q)) (h0 : (∀ p : Nat, a ≤ p → p < 1280 → s 1 p = 0) → K (py_O s) (py_o 1280)) : eX0_nextReference (py_O s) (py_o a) K := by
  have key : ∀ d b : Nat, b ≤ 1280 → 1280 - b ≤ d → a ≤ b → (∀ p : Nat, a ≤ p → p < b → s 1 p = 0) → ∃ n, lX0_nextReference_2 K n (py_o b) (py_O s) := by
    intro d
    induction d with
    | zero =>
      intro b hb hd hab hz
      refine ⟨1, ?_⟩
      unfold lX0_nextReference_2
      try simp only [py_O_ap, py_l0, py_l1, py_l2, py_l3, py_l4, py_l5, py_l6, py_l7, py_l8, py_l9, py_l12, py_l16, py_l32, py_l40, py_l100, py_l640, py_l1280, py_neg, py_add, py_sub, py_mul, py_stO]
      exact py_ilt (fun c => absurd c (by omega)) (fun _ => py_ile (fun _ => h0 (fun p h2 h3 => hz p h2 (by omega))) (fun c => absurd c (by omega)))
    | succ d ih =>
      intro b hb hd hab hz
      by_cases hb2 : b = 1280
      · refine ⟨1, ?_⟩
        unfold lX0_nextReference_2
        try simp only [py_O_ap, py_l0, py_l1, py_l2, py_l3, py_l4, py_l5, py_l6, py_l7, py_l8, py_l9, py_l12, py_l16, py_l32, py_l40, py_l100, py_l640, py_l1280, py_neg, py_add, py_sub, py_mul, py_stO]
        exact py_ilt (fun c => absurd c (by omega)) (fun _ => py_ile (fun _ => h0 (fun p h2 h3 => hz p h2 (by omega))) (fun c => absurd c (by omega)))
      · have hq : b / 32 < 40 := by omega
        have hF := hI.2 (b / 32) hq
        have hR := hI.1 b (by omega)
        have e1 : ((b : Int) / 32).toNat = b / 32 := by omega
        have e2 : (b : Int).toNat = b := by omega
        by_cases c1 : ((b % 32 : Nat) : Int) < s 2 (b / 32)
        · by_cases c2 : s 1 b = 0
          · obtain ⟨n, hn⟩ := ih (b + 1) (by omega) (by omega) (by omega) (fun p h2 h3 => by
              by_cases e : p = b
              · rw [e]; exact c2
              · exact hz p h2 (by omega))
            refine ⟨n + 1, ?_⟩
            unfold lX0_nextReference_2
            try simp only [py_O_ap, py_l0, py_l1, py_l2, py_l3, py_l4, py_l5, py_l6, py_l7, py_l8, py_l9, py_l12, py_l16, py_l32, py_l40, py_l100, py_l640, py_l1280, py_neg, py_add, py_sub, py_mul, py_stO]
            rw [py_div (by omega) (by omega)]
            try simp only [py_O_ap, py_l0, py_l1, py_l2, py_l3, py_l4, py_l5, py_l6, py_l7, py_l8, py_l9, py_l12, py_l16, py_l32, py_l40, py_l100, py_l640, py_l1280, py_neg, py_add, py_sub, py_mul, py_stO]
            rw [py_nat (by omega), py_nat (by omega), e1, e2]
            refine py_ilt (fun c => absurd c (by omega)) (fun _ => py_ile (fun c => absurd c (by omega)) (fun _ => py_and ?_))
            refine py_ilt (fun _ => py_and ?_) (fun c => absurd c (by omega))
            exact py_ieq (fun _ => hn) (fun c => absurd c2 c)
          · refine ⟨1, ?_⟩
            unfold lX0_nextReference_2
            try simp only [py_O_ap, py_l0, py_l1, py_l2, py_l3, py_l4, py_l5, py_l6, py_l7, py_l8, py_l9, py_l12, py_l16, py_l32, py_l40, py_l100, py_l640, py_l1280, py_neg, py_add, py_sub, py_mul, py_stO]
            rw [py_div (by omega) (by omega)]
            try simp only [py_O_ap, py_l0, py_l1, py_l2, py_l3, py_l4, py_l5, py_l6, py_l7, py_l8, py_l9, py_l12, py_l16, py_l32, py_l40, py_l100, py_l640, py_l1280, py_neg, py_add, py_sub, py_mul, py_stO]
            rw [py_nat (by omega), py_nat (by omega), e1, e2]
            refine py_ilt (fun c => absurd c (by omega)) (fun _ => py_ile (fun c => absurd c (by omega)) (fun _ => py_and ?_))
            refine py_ilt (fun _ => py_and ?_) (fun c => absurd c (by omega))
            refine py_ieq (fun c => absurd c c2) (fun _ => h1 b hab (by omega) (by omega) hz)
        · obtain ⟨n, hn⟩ := ih ((b / 32 + 1) * 32) (by omega) (by omega) (by omega) (fun p h2 h3 => by
            by_cases e : p < b
            · exact hz p h2 e
            · by_cases e3 : s 1 p = 0
              · exact e3
              · have := (hI.1 p (by omega)).2 e3
                have e4 : p / 32 = b / 32 := by omega
                rw [e4] at this
                omega)
          refine ⟨n + 1, ?_⟩
          unfold lX0_nextReference_2
          try simp only [py_O_ap, py_l0, py_l1, py_l2, py_l3, py_l4, py_l5, py_l6, py_l7, py_l8, py_l9, py_l12, py_l16, py_l32, py_l40, py_l100, py_l640, py_l1280, py_neg, py_add, py_sub, py_mul, py_stO]
          rw [py_div (by omega) (by omega)]
          try simp only [py_O_ap, py_l0, py_l1, py_l2, py_l3, py_l4, py_l5, py_l6, py_l7, py_l8, py_l9, py_l12, py_l16, py_l32, py_l40, py_l100, py_l640, py_l1280, py_neg, py_add, py_sub, py_mul, py_stO]
          rw [py_nat (by omega), e1]
          refine py_ilt (fun c => absurd c (by omega)) (fun _ => py_ile (fun c => absurd c (by omega)) (fun _ => py_and ?_))
          refine py_ilt (fun c => absurd c (by omega)) (fun c => ?_)
          have e5 : (((b / 32 + 1) * 32 : Nat) : Int) = ((b : Int) / 32 + 1) * 32 := by omega
          rw [e5] at hn
          exact hn
  unfold eX0_nextReference
  exact key 1280 a ha (by omega) (Nat.le_refl _) (fun p h2 h3 => absurd h3 (by omega))
/-- a car is cleared -/
def pr_clr (s : py_Z) (c : Nat) : py_Z := fun g i => if g = 0 ∨ g = 1 then (if i / 32 = c then 0 else s g i) else if g = 2 ∨ g = 3 then (if i = c then 0 else s g i) else s g i
theorem pr_clear {s : py_Z} {c : Nat} {K : ty_S → Prop} (hc : c < 40) (h : K (py_O (pr_clr s c))) : eX0_clear (py_O s) (py_o c) K := by
  have key : ∀ d m : Nat, m + d = 32 → ∃ n, lX0_clear_15 K n (py_o c) (py_o (c * 32)) (py_o ((c * 32 + m : Nat) : Int)) (py_O (fun g i => if g = 0 ∨ g = 1 then (if c * 32 ≤ i ∧ i < c * 32 + m then 0 else s g i) else s g i)) := by
    intro d
    induction d with
    | zero =>
      intro m hm
      refine ⟨1, ?_⟩
      unfold lX0_clear_15
      try simp only [py_O_ap, py_l0, py_l1, py_l2, py_l3, py_l4, py_l5, py_l6, py_l7, py_l8, py_l9, py_l12, py_l16, py_l32, py_l40, py_l100, py_l640, py_l1280, py_neg, py_add, py_sub, py_mul, py_stO]
      refine py_ile (fun _ => ?_) (fun c => absurd c (by omega))
      unfold jX0_clear_50
      try simp only [py_O_ap, py_l0, py_l1, py_l2, py_l3, py_l4, py_l5, py_l6, py_l7, py_l8, py_l9, py_l12, py_l16, py_l32, py_l40, py_l100, py_l640, py_l1280, py_neg, py_add, py_sub, py_mul, py_stO]
      refine py_and (py_and ?_)
      rw [py_nat (by omega)]
      have e : pr_clr s c = py_st (py_st (fun g i => if g = 0 ∨ g = 1 then (if c * 32 ≤ i ∧ i < c * 32 + m then 0 else s g i) else s g i) 2 (c : Int).toNat 0) 3 (c : Int).toNat 0 := by
        funext g i
        simp only [pr_clr, py_st, Int.toNat_natCast]
        grind
      rw [← e]
      exact h
    | succ d ih =>
      intro m hm
      obtain ⟨n, hn⟩ := ih (m + 1) (by omega)
      refine ⟨n + 1, ?_⟩
      unfold lX0_clear_15
      try simp only [py_O_ap, py_l0, py_l1, py_l2, py_l3, py_l4, py_l5, py_l6, py_l7, py_l8, py_l9, py_l12, py_l16, py_l32, py_l40, py_l100, py_l640, py_l1280, py_neg, py_add, py_sub, py_mul, py_stO]
      refine py_ile (fun c => absurd c (by omega)) (fun _ => py_ile (fun c => absurd c (by omega)) (fun _ => py_and (py_and ?_)))
      rw [py_nat (by omega)]
      have e : (fun g i => if g = 0 ∨ g = 1 then (if c * 32 ≤ i ∧ i < c * 32 + (m + 1) then 0 else s g i) else s g i) = py_st (py_st (fun g i => if g = 0 ∨ g = 1 then (if c * 32 ≤ i ∧ i < c * 32 + m then 0 else s g i) else s g i) 0 ((c * 32 + m : Nat) : Int).toNat 0) 1 ((c * 32 + m : Nat) : Int).toNat 0 := by
        funext g i
        simp only [py_st, Int.toNat_natCast]
        grind
      rw [e] at hn
      exact hn
  unfold eX0_clear
  try simp only [py_O_ap, py_l0, py_l1, py_l2, py_l3, py_l4, py_l5, py_l6, py_l7, py_l8, py_l9, py_l12, py_l16, py_l32, py_l40, py_l100, py_l640, py_l1280, py_neg, py_add, py_sub, py_mul, py_stO]
  refine pr_isCar (fun _ _ => ?_) (fun c => absurd c (by omega))
  refine py_ieq (fun c => absurd c (by omega)) (fun _ => ?_)
  have := key 32 0 rfl
  have e : (fun (g i : Nat) => if g = 0 ∨ g = 1 then (if c * 32 ≤ i ∧ i < c * 32 + 0 then 0 else s g i) else s g i) = s := by
    funext g i
    grind
  rw [e] at this
  exact this
/-- a thing is laid -/
def pr_ld (s : py_Z) (c : Nat) (l r n : Int) : py_Z := fun g i =>
  if g = 0 then (if (i : Int) = 32 * c + s 2 c then l else if (i : Int) = 32 * c + s 2 c + 1 then r + 16 * n else if 32 * c + s 2 c + 2 ≤ (i : Int) ∧ (i : Int) < 32 * c + s 2 c + 2 + r then -1 else s 0 i)
  else if g = 1 then (if 32 * c + s 2 c + 2 ≤ (i : Int) ∧ (i : Int) < 32 * c + s 2 c + 2 + r then 1 else s 1 i)
  else if g = 2 then (if i = c then s 2 c + (2 + r + n) else s 2 i)
  else if g = 3 then (if i = c then s 3 c + 1 else s 3 i)
  else if g = 4 then (if i = c then 32 * c + s 2 c else s 4 i)
  else s g i
theorem pr_load {s : py_Z} {c : Nat} {l r n : Int} {K : ty_S → Int32 → Prop} (hc : c < 40) (hF : 0 ≤ s 2 c) (hr : 0 ≤ r) (hn : 0 ≤ n) (hfit : s 2 c + (2 + r + n) ≤ 32) (h : K (py_O (pr_ld s c l r n)) (py_o (32 * c + s 2 c))) : eX0_load (py_O s) (py_o c) (py_o l) (py_o r) (py_o n) K := by
  generalize hF2 : s 2 c = F at *
  have key : ∀ d m : Nat, (m : Int) + d = r → ∃ n9, lX0_load_69 K n9 (py_o c) (py_o (2 + r + n)) (py_o (c * 32 + F)) (py_o (c * 32 + F + 2 + r)) (py_o (c * 32 + F + 2 + m)) (py_O (fun g i =>
      if g = 0 then (if (i : Int) = 32 * c + F then l else if (i : Int) = 32 * c + F + 1 then r + 16 * n else if 32 * c + F + 2 ≤ (i : Int) ∧ (i : Int) < 32 * c + F + 2 + m then -1 else s 0 i)
      else if g = 1 then (if 32 * c + F + 2 ≤ (i : Int) ∧ (i : Int) < 32 * c + F + 2 + m then 1 else s 1 i) else s g i)) := by
    intro d
    induction d with
    | zero =>
      intro m hm
      refine ⟨1, ?_⟩
      unfold lX0_load_69
      try simp only [py_O_ap, py_l0, py_l1, py_l2, py_l3, py_l4, py_l5, py_l6, py_l7, py_l8, py_l9, py_l12, py_l16, py_l32, py_l40, py_l100, py_l640, py_l1280, py_neg, py_add, py_sub, py_mul, py_stO]
      refine py_ile (fun _ => ?_) (fun c => absurd c (by omega))
      unfold jX0_load_106
      try simp only [py_O_ap, py_l0, py_l1, py_l2, py_l3, py_l4, py_l5, py_l6, py_l7, py_l8, py_l9, py_l12, py_l16, py_l32, py_l40, py_l100, py_l640, py_l1280, py_neg, py_add, py_sub, py_mul, py_stO]
      refine py_and (py_and (py_and (py_and (py_and ?_))))
      rw [py_nat (by omega)]
      simp only [Int.toNat_natCast]
      try simp only [py_O_ap, py_l0, py_l1, py_l2, py_l3, py_l4, py_l5, py_l6, py_l7, py_l8, py_l9, py_l12, py_l16, py_l32, py_l40, py_l100, py_l640, py_l1280, py_neg, py_add, py_sub, py_mul, py_stO]
      have hm2 : (m : Int) = r := by omega
      rw [hm2]
      have e0 : (c : Int) * 32 + F = 32 * c + F := by omega
      rw [e0]
      have e : pr_ld s c l r n = py_st (py_st (py_st (fun g i =>
      if g = 0 then (if (i : Int) = 32 * c + F then l else if (i : Int) = 32 * c + F + 1 then r + 16 * n else if 32 * c + F + 2 ≤ (i : Int) ∧ (i : Int) < 32 * c + F + 2 + r then -1 else s 0 i)
      else if g = 1 then (if 32 * c + F + 2 ≤ (i : Int) ∧ (i : Int) < 32 * c + F + 2 + r then 1 else s 1 i) else s g i) 2 c (s 2 c + (2 + r + n))) 3 c (s 3 c + 1)) 4 c (32 * c + F) := by
        funext g i
        simp only [pr_ld, py_st, hF2]
        grind
      rw [e] at h
      exact h
    | succ d ih =>
      intro m hm
      obtain ⟨n9, hn9⟩ := ih (m + 1) (by omega)
      refine ⟨n9 + 1, ?_⟩
      unfold lX0_load_69
      try simp only [py_O_ap, py_l0, py_l1, py_l2, py_l3, py_l4, py_l5, py_l6, py_l7, py_l8, py_l9, py_l12, py_l16, py_l32, py_l40, py_l100, py_l640, py_l1280, py_neg, py_add, py_sub, py_mul, py_stO]
      refine py_ile (fun c => absurd c (by omega)) (fun _ => py_ile (fun c => absurd c (by omega)) (fun _ => py_and (py_and ?_)))
      rw [py_nat (by omega)]
      try simp only [py_O_ap, py_l0, py_l1, py_l2, py_l3, py_l4, py_l5, py_l6, py_l7, py_l8, py_l9, py_l12, py_l16, py_l32, py_l40, py_l100, py_l640, py_l1280, py_neg, py_add, py_sub, py_mul, py_stO]
      have e1 : (c : Int) * 32 + F + 2 + (m + 1 : Nat) = c * 32 + F + 2 + m + 1 := by omega
      rw [e1] at hn9
      have e : (fun (g i : Nat) =>
      if g = 0 then (if (i : Int) = 32 * c + F then l else if (i : Int) = 32 * c + F + 1 then r + 16 * n else if 32 * c + F + 2 ≤ (i : Int) ∧ (i : Int) < 32 * c + F + 2 + (m + 1 : Nat) then -1 else s 0 i)
      else if g = 1 then (if 32 * c + F + 2 ≤ (i : Int) ∧ (i : Int) < 32 * c + F + 2 + (m + 1 : Nat) then 1 else s 1 i) else s g i) = py_st (py_st (fun g i =>
      if g = 0 then (if (i : Int) = 32 * c + F then l else if (i : Int) = 32 * c + F + 1 then r + 16 * n else if 32 * c + F + 2 ≤ (i : Int) ∧ (i : Int) < 32 * c + F + 2 + m then -1 else s 0 i)
      else if g = 1 then (if 32 * c + F + 2 ≤ (i : Int) ∧ (i : Int) < 32 * c + F + 2 + m then 1 else s 1 i) else s g i) 0 ((c : Int) * 32 + F + 2 + m).toNat (-1)) 1 ((c : Int) * 32 + F + 2 + m).toNat 1 := by
        funext g i
        simp only [py_st]
        grind
      rw [e] at hn9
      exact hn9
  unfold eX0_load
  try simp only [py_O_ap, py_l0, py_l1, py_l2, py_l3, py_l4, py_l5, py_l6, py_l7, py_l8, py_l9, py_l12, py_l16, py_l32, py_l40, py_l100, py_l640, py_l1280, py_neg, py_add, py_sub, py_mul, py_stO]
  refine pr_room (fun _ _ => ?_) (fun c => absurd c (by omega))
  simp only [Int.toNat_natCast, hF2]
  refine py_ile (fun _ => py_and ?_) (fun c => absurd c (by omega))
  rw [py_nat (by omega)]
  simp only [Int.toNat_natCast, hF2]
  try simp only [py_O_ap, py_l0, py_l1, py_l2, py_l3, py_l4, py_l5, py_l6, py_l7, py_l8, py_l9, py_l12, py_l16, py_l32, py_l40, py_l100, py_l640, py_l1280, py_neg, py_add, py_sub, py_mul, py_stO]
  refine pr_write (fun _ _ => ?_) (fun c => absurd c (by omega))
  refine pr_write (fun _ _ => ?_) (fun c => absurd c (by omega))
  simp only [hF2]
  have := key r.toNat 0 (by omega)
  have e : (fun (g i : Nat) =>
      if g = 0 then (if (i : Int) = 32 * c + F then l else if (i : Int) = 32 * c + F + 1 then r + 16 * n else if 32 * c + F + 2 ≤ (i : Int) ∧ (i : Int) < 32 * c + F + 2 + (0 : Nat) then -1 else s 0 i)
      else if g = 1 then (if 32 * c + F + 2 ≤ (i : Int) ∧ (i : Int) < 32 * c + F + 2 + (0 : Nat) then 1 else s 1 i) else s g i) = py_st (py_st s 0 ((c : Int) * 32 + F).toNat l) 0 ((c : Int) * 32 + F + 1).toNat (r + 16 * n) := by
    funext g i
    simp only [py_st]
    grind
  rw [e] at this
  have e2 : (c : Int) * 32 + F + 2 + (0 : Nat) = c * 32 + F + 2 := by omega
  rw [e2] at this
  exact this
/-- a thing is brought: laid again elsewhere -/
def pr_br (s : py_Z) (a c : Nat) (r n : Int) : py_Z := fun g i =>
  if g = 0 then (if 32 * c + s 2 c ≤ (i : Int) ∧ (i : Int) < 32 * c + s 2 c + (2 + r + n) then s 0 (a + (i - (32 * c + s 2 c).toNat)) else s 0 i)
  else if g = 1 then (if 32 * c + s 2 c + 2 ≤ (i : Int) ∧ (i : Int) < 32 * c + s 2 c + 2 + r then 1 else s 1 i)
  else if g = 2 then (if i = c then s 2 c + (2 + r + n) else s 2 i)
  else if g = 3 then (if i = c then s 3 c + 1 else s 3 i)
  else if g = 4 then (if i = c then 32 * c + s 2 c else s 4 i)
  else s g i
theorem pr_bring {s : py_Z} {a c : Nat} {r n : Int} {K : ty_S → Int32 → Prop} (hc : c < 40) (hF : 0 ≤ s 2 c) (hr : 0 ≤ r) (hr2 : r ≤ 12) (hn : 0 ≤ n) (hn2 : n ≤ 12) (hfit : s 2 c + (2 + r + n) ≤ 32) (ha : (a : Int) + (2 + r + n) ≤ 1280) (hw : s 0 (a + 1) = r + 16 * n) (hdis : (a : Int) + (2 + r + n) ≤ 32 * c + s 2 c ∨ 32 * c + s 2 c + (2 + r + n) ≤ a) (h : K (py_O (pr_br s a c r n)) (py_o (32 * c + s 2 c))) : eX0_bring (py_O s) (py_o a) (py_o c) K := by
  have hw2 : s 0 ((a : Int) + 1).toNat = r + 16 * n := by
    have e : ((a : Int) + 1).toNat = a + 1 := by omega
    rw [e]; exact hw
  unfold eX0_bring
  try simp only [py_O_ap, py_l0, py_l1, py_l2, py_l3, py_l4, py_l5, py_l6, py_l7, py_l8, py_l9, py_l12, py_l16, py_l32, py_l40, py_l100, py_l640, py_l1280, py_neg, py_add, py_sub, py_mul, py_stO]
  refine pr_labelOf (fun _ _ => ?_) (fun c => absurd c (by omega))
  simp only [Int.toNat_natCast]
  refine pr_references (by omega) (by omega) hw2 hr (by omega) hn (by omega) ?_
  refine pr_numbers (by omega) (by omega) hw2 hr (by omega) hn (by omega) ?_
  refine pr_load hc hF hr hn hfit ?_
  refine py_ieq (fun c => absurd c (by omega)) (fun _ => ?_)
  have hw3 : pr_ld s c (s 0 a) r n 0 ((a : Int) + 1).toNat = r + 16 * n := by
    simp only [pr_ld]
    have e : ((a : Int) + 1).toNat = a + 1 := by omega
    rw [e, hw]
    grind
  refine pr_size (by omega) (by omega) hw3 hr (by omega) hn (by omega) ?_
  have key : ∀ d m : Nat, 2 ≤ m → (m : Int) + d = 2 + r + n → ∃ n9, lX0_bring_38 K n9 (py_o a) (py_o (32 * c + s 2 c)) (py_o (2 + r + n)) (py_o m) (py_O (fun g i => if g = 0 ∧ 32 * c + s 2 c ≤ (i : Int) ∧ (i : Int) < 32 * c + s 2 c + m then s 0 (a + (i - (32 * c + s 2 c).toNat)) else pr_ld s c (s 0 a) r n g i)) := by
    intro d
    induction d with
    | zero =>
      intro m hm0 hm
      refine ⟨1, ?_⟩
      unfold lX0_bring_38
      try simp only [py_O_ap, py_l0, py_l1, py_l2, py_l3, py_l4, py_l5, py_l6, py_l7, py_l8, py_l9, py_l12, py_l16, py_l32, py_l40, py_l100, py_l640, py_l1280, py_neg, py_add, py_sub, py_mul, py_stO]
      refine py_ile (fun _ => ?_) (fun c => absurd c (by omega))
      have e : pr_br s a c r n = (fun (g i : Nat) => if g = 0 ∧ 32 * c + s 2 c ≤ (i : Int) ∧ (i : Int) < 32 * c + s 2 c + m then s 0 (a + (i - (32 * c + s 2 c).toNat)) else pr_ld s c (s 0 a) r n g i) := by
        funext g i
        simp only [pr_br, pr_ld]
        grind
      rw [← e]
      exact h
    | succ d ih =>
      intro m hm0 hm
      obtain ⟨n9, hn9⟩ := ih (m + 1) (by omega) (by omega)
      refine ⟨n9 + 1, ?_⟩
      unfold lX0_bring_38
      try simp only [py_O_ap, py_l0, py_l1, py_l2, py_l3, py_l4, py_l5, py_l6, py_l7, py_l8, py_l9, py_l12, py_l16, py_l32, py_l40, py_l100, py_l640, py_l1280, py_neg, py_add, py_sub, py_mul, py_stO]
      refine py_ile (fun c => absurd c (by omega)) (fun _ => ?_)
      refine pr_at (fun _ _ => ?_) (fun c => absurd c (by omega))
      refine pr_write (fun _ _ => ?_) (fun c => absurd c (by omega))
      have e : (fun (g i : Nat) => if g = 0 ∧ 32 * c + s 2 c ≤ (i : Int) ∧ (i : Int) < 32 * c + s 2 c + (m + 1 : Nat) then s 0 (a + (i - (32 * c + s 2 c).toNat)) else pr_ld s c (s 0 a) r n g i) = py_st (fun g i => if g = 0 ∧ 32 * c + s 2 c ≤ (i : Int) ∧ (i : Int) < 32 * c + s 2 c + m then s 0 (a + (i - (32 * c + s 2 c).toNat)) else pr_ld s c (s 0 a) r n g i) 0 (32 * c + s 2 c + m).toNat (if 0 = 0 ∧ 32 * c + s 2 c ≤ (((a : Int) + m).toNat : Int) ∧ (((a : Int) + m).toNat : Int) < 32 * c + s 2 c + m then s 0 (a + (((a : Int) + m).toNat - (32 * c + s 2 c).toNat)) else pr_ld s c (s 0 a) r n 0 ((a : Int) + m).toNat) := by
        funext g i
        have e1 : ((a : Int) + m).toNat = a + m := by omega
        rw [e1]
        simp only [py_st]
        by_cases hg : g = 0
        · subst hg
          by_cases hi : i = (32 * c + s 2 c + m).toNat
          · have e2 : i - (32 * (c : Int) + s 2 c).toNat = m := by omega
            rw [if_pos rfl, if_pos hi, if_pos (by omega), e2, if_neg (by omega)]
            simp only [pr_ld]
            grind
          · grind
        · grind
      rw [e] at hn9
      exact hn9
  have := key (r + n).toNat 2 (Nat.le_refl _) (by omega)
  have e : (fun (g i : Nat) => if g = 0 ∧ 32 * c + s 2 c ≤ (i : Int) ∧ (i : Int) < 32 * c + s 2 c + (2 : Nat) then s 0 (a + (i - (32 * c + s 2 c).toNat)) else pr_ld s c (s 0 a) r n g i) = pr_ld s c (s 0 a) r n := by
    funext g i
    by_cases hg : g = 0
    · subst hg
      by_cases hi : i = (32 * c + s 2 c).toNat
      · have e2 : i - (32 * (c : Int) + s 2 c).toNat = 0 := by omega
        rw [if_pos ⟨rfl, by omega, by omega⟩, e2]
        simp only [pr_ld]
        grind
      · by_cases hi : i = (32 * c + s 2 c).toNat + 1
        · have e2 : i - (32 * (c : Int) + s 2 c).toNat = 1 := by omega
          rw [if_pos ⟨rfl, by omega, by omega⟩, e2, hw]
          simp only [pr_ld]
          grind
        · rw [if_neg (by omega)]
    · grind
  rw [e] at this
  exact this

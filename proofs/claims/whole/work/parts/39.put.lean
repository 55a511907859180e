/-! PURE: the car that a thing is put to -/
theorem py_greatest {P : Nat → Prop} (hd : ∀ k, P k ∨ ¬ P k) : ∀ {n k : Nat}, k < n → P k → ∃ m, m < n ∧ P m ∧ ∀ j, m < j → j < n → ¬ P j
  | 0, k, h, _ => absurd h (by omega)
  | n + 1, k, h, hP => by
    rcases hd n with e | e
    · exact ⟨n, by omega, e, fun j h1 h2 => absurd h1 (by omega)⟩
    · by_cases e2 : k = n
      · subst e2; exact absurd hP e
      · obtain ⟨m, h1, h2, h3⟩ := py_greatest hd (n := n) (k := k) (by omega) hP
        refine ⟨m, by omega, h2, fun j h4 h5 => ?_⟩
        by_cases e3 : j = n
        · rw [e3]; exact e
        · exact h3 j h4 (by omega)
theorem pr_roomInStep {s : py_Z} {a : Int} {K : ty_S → Int32 → Prop} (ra : 0 ≤ a ∧ a < 40) (re : -1 ≤ s 20 0 ∧ s 20 0 < 40) (h1 : a = s 20 0 → K (py_O s) (py_o 0)) (h0 : a ≠ s 20 0 → K (py_O s) (py_o (32 - s 2 a.toNat))) : eX3_roomInStep (py_O s) (py_o a) K := by
  unfold eX3_roomInStep
  try simp only [py_O_ap, py_l0, py_l1, py_l2, py_l3, py_l4, py_l5, py_l6, py_l7, py_l8, py_l9, py_l12, py_l16, py_l32, py_l40, py_l100, py_l640, py_l1280, py_neg, py_add, py_sub, py_mul, py_stO]
  exact py_ieq h1 (fun c => pr_room (fun _ _ => h0 c) (fun c => absurd c (by omega)))
theorem pp_least {s t : py_Z} (h : pr_RW s t) (hN : s 13 0 < 40) : ∃ c : Nat, c < 40 ∧ s 6 c = 0 ∧ ∀ d : Nat, d < c → s 6 d ≠ 0 := by
  obtain ⟨c, h1, h2⟩ := h.free hN
  obtain ⟨k, h3, h4, h5⟩ := py_least (P := fun c => s 6 c = 0) (fun k => Classical.em _) h2
  exact ⟨k, by omega, h4, h5⟩
theorem pp_scanC {s t : py_Z} (h : pr_RW s t) {e n : Int} (hes : s 20 0 = e) (he : -1 ≤ e ∧ e < 40) (hn : 1 ≤ n ∧ n ≤ 32) (hfil : ∀ c : Nat, c < 40 → s 2 c = t 37 c ∧ 0 ≤ t 37 c ∧ t 37 c ≤ 32) {m : Nat} (hm : (m : Int) < s 13 0) (hP : s 5 m ≠ e ∧ t 37 (s 5 m).toNat + n ≤ 32) (hl : ∀ k : Nat, m < k → (k : Int) < s 13 0 → ¬ (s 5 k ≠ e ∧ t 37 (s 5 k).toNat + n ≤ 32)) {K : ty_S → Int32 → Prop} (hK : K (py_O s) (py_o (s 5 m))) : ∃ n9, lX3_carInto_50 K n9 (py_o n) (py_o (s 13 0 - 1)) (py_O s) := by
  have hc0 := h.cnt
  have key : ∀ d k : Nat, m + d = k → (k : Int) < s 13 0 → ∃ n9, lX3_carInto_50 K n9 (py_o n) (py_o k) (py_O s) := by
    intro d
    induction d with
    | zero =>
      intro k hk hk2
      have e1 : k = m := by omega
      subst e1
      have hb := (h.car hk2).1
      have hf := hfil (s 5 k).toNat (by omega)
      refine ⟨1, ?_⟩
      unfold lX3_carInto_50
      try simp only [py_O_ap, py_l0, py_l1, py_l2, py_l3, py_l4, py_l5, py_l6, py_l7, py_l8, py_l9, py_l12, py_l16, py_l32, py_l40, py_l100, py_l640, py_l1280, py_neg, py_add, py_sub, py_mul, py_stO]
      refine py_ilt (fun c => absurd c (by omega)) (fun _ => ?_)
      refine pr_carAt hc0 (fun _ _ => ?_) (fun c => absurd c (by omega))
      simp only [Int.toNat_natCast]
      refine pr_roomInStep hb (by omega) (fun c => absurd c (by omega)) (fun _ => ?_)
      refine py_ilt (fun c => absurd c (by omega)) (fun _ => ?_)
      refine pr_carAt hc0 (fun _ _ => ?_) (fun c => absurd c (by omega))
      simp only [Int.toNat_natCast]
      exact hK
    | succ d ih =>
      intro k hk hk2
      have hb := (h.car hk2).1
      have hf := hfil (s 5 k).toNat (by omega)
      have hk3 := hl k (by omega) hk2
      obtain ⟨n9, hn9⟩ := ih (k - 1) (by omega) (by omega)
      have e4 : ((k - 1 : Nat) : Int) = (k : Int) + -1 := by omega
      rw [e4] at hn9
      refine ⟨n9 + 1, ?_⟩
      unfold lX3_carInto_50
      try simp only [py_O_ap, py_l0, py_l1, py_l2, py_l3, py_l4, py_l5, py_l6, py_l7, py_l8, py_l9, py_l12, py_l16, py_l32, py_l40, py_l100, py_l640, py_l1280, py_neg, py_add, py_sub, py_mul, py_stO]
      refine py_ilt (fun c => absurd c (by omega)) (fun _ => ?_)
      refine pr_carAt hc0 (fun _ _ => ?_) (fun c => absurd c (by omega))
      simp only [Int.toNat_natCast]
      refine pr_roomInStep hb (by omega) (fun c => ?_) (fun c => ?_)
      · exact py_ilt (fun _ => hn9) (fun c => absurd c (by omega))
      · exact py_ilt (fun _ => hn9) (fun c2 => absurd (⟨by omega, by omega⟩ : s 5 k ≠ e ∧ t 37 (s 5 k).toNat + n ≤ 32) hk3)
  have := key ((s 13 0 - 1).toNat - m) (s 13 0 - 1).toNat (by omega) (by omega)
  have e : (((s 13 0 - 1).toNat : Nat) : Int) = s 13 0 - 1 := by omega
  rw [e] at this
  exact this
theorem pp_scanM {s t : py_Z} (h : pr_RW s t) {e n : Int} (het : t 59 0 = e) (he : -1 ≤ e ∧ e < 40) (hn : 1 ≤ n ∧ n ≤ 32) (hfil : ∀ c : Nat, c < 40 → s 2 c = t 37 c ∧ 0 ≤ t 37 c ∧ t 37 c ≤ 32) {m : Nat} (hm : (m : Int) < s 13 0) (hP : s 5 m ≠ e ∧ t 37 (s 5 m).toNat + n ≤ 32) (hl : ∀ k : Nat, m < k → (k : Int) < s 13 0 → ¬ (s 5 k ≠ e ∧ t 37 (s 5 k).toNat + n ≤ 32)) {K : ty_S → Int32 → Prop} (hK : K (py_O t) (py_o (s 5 m))) : ∃ n9, lX5_carFor_52 K n9 (py_o n) (py_o (-1)) (py_o 0) (py_O t) := by
  have hc0 := h.cnt
  have h0 := h.1
  have hin : ∀ j : Nat, (j : Int) < t 50 0 → ∀ R : Int32 → Int32 → Int32 → ty_S → Prop, (∀ f : Int, (m < pr_off t (j + 1) → f = s 5 m) → (-1 ≤ f ∧ f < 40) → R (py_o n) (py_o f) (py_o (j + 1)) (py_O t)) → ∀ d i : Nat, (i : Int) + d = t 41 j → ∀ f : Int, (m < pr_off t j + i → f = s 5 m) → (-1 ≤ f ∧ f < 40) → ∃ n9, lX5_carFor_64 K R n9 (py_o n) (py_o f) (py_o j) (py_o i) (py_O t) := by
    intro j hj R hR d
    have hsz := h.2.1 j hj
    induction d with
    | zero =>
      intro i hi f hf hfb
      refine ⟨1, ?_⟩
      unfold lX5_carFor_64
      try simp only [py_O_ap, py_l0, py_l1, py_l2, py_l3, py_l4, py_l5, py_l6, py_l7, py_l8, py_l9, py_l12, py_l16, py_l32, py_l40, py_l100, py_l640, py_l1280, py_neg, py_add, py_sub, py_mul, py_stO]
      refine py_and ?_
      rw [py_nat (by omega)]
      simp only [Int.toNat_natCast]
      refine py_ile (fun _ => hR f (fun c => hf ?_) hfb) (fun c => absurd c (by omega))
      have h9 : pr_off t (j + 1) = pr_off t j + (t 41 j).toNat := rfl
      omega
    | succ d ih =>
      intro i hi f hf hfb
      obtain ⟨h1, h2, h3⟩ := h.2.2.2.1 j i hj (by omega)
      have hlt := h.lt hj (k := i) (by omega)
      have e1 : ((40 : Int) * j + i).toNat = 40 * j + i := by omega
      have hfi := hfil (t 42 (40 * j + i)).toNat (by omega)
      have hskip : ¬ (t 42 (40 * j + i) ≠ e ∧ t 37 (t 42 (40 * j + i)).toNat + n ≤ 32) → ∃ n9, lX5_carFor_64 K R n9 (py_o n) (py_o f) (py_o j) (py_o (i + 1)) (py_O t) := fun hno => ih (i + 1) (by omega) f (fun c => by
        rcases Nat.lt_or_eq_of_le (show m ≤ pr_off t j + i by omega) with e2 | e2
        · exact hf e2
        · rw [e2, h1] at hP; exact absurd hP hno) hfb
      have htake : t 42 (40 * j + i) ≠ e ∧ t 37 (t 42 (40 * j + i)).toNat + n ≤ 32 → ∃ n9, lX5_carFor_64 K R n9 (py_o n) (py_o (t 42 (40 * j + i))) (py_o j) (py_o (i + 1)) (py_O t) := fun hyes => ih (i + 1) (by omega) _ (fun c => by
        rcases Nat.lt_or_eq_of_le (show m ≤ pr_off t j + i by omega) with e2 | e2
        · have := hl (pr_off t j + i) e2 hlt
          rw [h1] at this
          exact absurd hyes this
        · rw [e2, h1]) (by omega)
      by_cases c1 : t 42 (40 * j + i) = e
      · obtain ⟨n9, hn9⟩ := hskip (fun c => c.1 c1)
        refine ⟨n9 + 1, ?_⟩
        unfold lX5_carFor_64
        try simp only [py_O_ap, py_l0, py_l1, py_l2, py_l3, py_l4, py_l5, py_l6, py_l7, py_l8, py_l9, py_l12, py_l16, py_l32, py_l40, py_l100, py_l640, py_l1280, py_neg, py_add, py_sub, py_mul, py_stO]
        refine py_and ?_
        rw [py_nat (by omega), py_nat (by omega), e1]
        simp only [Int.toNat_natCast]
        refine py_ile (fun c => absurd c (by omega)) (fun _ => py_and ?_)
        exact py_ieq (fun _ => hn9) (fun c => absurd c1 (by omega))
      · have e2 : t 42 (40 * j + i) = ((t 42 (40 * j + i)).toNat : Nat) := by omega
        by_cases c2 : t 37 (t 42 (40 * j + i)).toNat + n ≤ 32
        · obtain ⟨n9, hn9⟩ := htake ⟨c1, c2⟩
          refine ⟨n9 + 1, ?_⟩
          unfold lX5_carFor_64
          try simp only [py_O_ap, py_l0, py_l1, py_l2, py_l3, py_l4, py_l5, py_l6, py_l7, py_l8, py_l9, py_l12, py_l16, py_l32, py_l40, py_l100, py_l640, py_l1280, py_neg, py_add, py_sub, py_mul, py_stO]
          refine py_and ?_
          rw [py_nat (by omega), py_nat (by omega), e1]
          simp only [Int.toNat_natCast]
          refine py_ile (fun c => absurd c (by omega)) (fun _ => py_and ?_)
          refine py_ieq (fun c => absurd c (by omega)) (fun _ => ?_)
          rw [e2] at hn9 ⊢
          refine pm_hasRoom (by omega) hfi.2 (by omega) (fun _ => ?_) (fun c => absurd c (by omega))
          exact py_ieq (fun c => absurd c (by omega)) (fun _ => hn9)
        · obtain ⟨n9, hn9⟩ := hskip (fun c => c2 c.2)
          refine ⟨n9 + 1, ?_⟩
          unfold lX5_carFor_64
          try simp only [py_O_ap, py_l0, py_l1, py_l2, py_l3, py_l4, py_l5, py_l6, py_l7, py_l8, py_l9, py_l12, py_l16, py_l32, py_l40, py_l100, py_l640, py_l1280, py_neg, py_add, py_sub, py_mul, py_stO]
          refine py_and ?_
          rw [py_nat (by omega), py_nat (by omega), e1]
          simp only [Int.toNat_natCast]
          refine py_ile (fun c => absurd c (by omega)) (fun _ => py_and ?_)
          refine py_ieq (fun c => absurd c (by omega)) (fun _ => ?_)
          rw [e2]
          refine pm_hasRoom (by omega) hfi.2 (by omega) (fun c => absurd c (by omega)) (fun _ => ?_)
          exact py_ieq (fun _ => hn9) (fun c => absurd rfl c)
  have key : ∀ d j : Nat, (j : Int) + d = t 50 0 → ∀ f : Int, (m < pr_off t j → f = s 5 m) → (-1 ≤ f ∧ f < 40) → lX5_carFor_52 K (d + 1) (py_o n) (py_o f) (py_o j) (py_O t) := by
    intro d
    induction d with
    | zero =>
      intro j hj f hf hfb
      unfold lX5_carFor_52
      try simp only [py_O_ap, py_l0, py_l1, py_l2, py_l3, py_l4, py_l5, py_l6, py_l7, py_l8, py_l9, py_l12, py_l16, py_l32, py_l40, py_l100, py_l640, py_l1280, py_neg, py_add, py_sub, py_mul, py_stO]
      refine py_ile (fun _ => ?_) (fun c => absurd c (by omega))
      have e1 := h.2.2.1
      rw [show (t 50 0).toNat = j by omega] at e1
      rw [hf (by omega)]
      exact hK
    | succ d ih =>
      intro j hj f hf hfb
      obtain ⟨n9, hn9⟩ := hin j (by omega) (fun a0 a1 a2 S9 => lX5_carFor_52 K (d + 1) a0 a1 a2 S9) (fun f hf hfb => ih (j + 1) (by omega) f hf hfb) (t 41 j).toNat 0 (by have := h.2.1 j (by omega); omega) f (fun c => hf (by omega)) hfb
      unfold lX5_carFor_52
      try simp only [py_O_ap, py_l0, py_l1, py_l2, py_l3, py_l4, py_l5, py_l6, py_l7, py_l8, py_l9, py_l12, py_l16, py_l32, py_l40, py_l100, py_l640, py_l1280, py_neg, py_add, py_sub, py_mul, py_stO]
      exact py_ile (fun c => absurd c (by omega)) (fun _ => ⟨n9, hn9⟩)
  try simp only [py_O_ap, py_l0, py_l1, py_l2, py_l3, py_l4, py_l5, py_l6, py_l7, py_l8, py_l9, py_l12, py_l16, py_l32, py_l40, py_l100, py_l640, py_l1280, py_neg, py_add, py_sub, py_mul, py_stO]
  exact ⟨_, key (t 50 0).toNat 0 (by omega) (-1) (fun c => absurd c (by simp [pr_off])) (by omega)⟩
/-- both put it to the same car -/
theorem pp_put {s t : py_Z} (h : pr_RW s t) {j : Nat} (hj : (j : Int) < t 50 0) {e n : Int} (hes : s 20 0 = e) (het : t 59 0 = e) (he : -1 ≤ e ∧ e < 40) (hse : 0 ≤ e → s 6 e.toNat ≠ 0) (hn : 1 ≤ n ∧ n ≤ 32) (hfil : ∀ c : Nat, c < 40 → s 2 c = t 37 c ∧ 0 ≤ t 37 c ∧ t 37 c ≤ 32) (hfree0 : ∀ c : Nat, c < 40 → s 6 c = 0 → t 37 c = 0 ∧ t 38 c = 0) (hroom : s 13 0 < 40 ∨ ∃ f : Nat, f < 40 ∧ s 6 f ≠ 0 ∧ (f : Int) ≠ e ∧ t 37 f + n ≤ 32) :
    ∃ (c : Nat) (s' t' : py_Z), c < 40 ∧ (c : Int) ≠ e ∧ t 37 c + n ≤ 32 ∧
      (∀ K : ty_S → Int32 → Prop, K (py_O s') (py_o c) → eX3_carInto (py_O s) (py_o (t 40 j)) (py_o n) K) ∧
      (∀ K : ty_S → Int32 → Prop, K (py_O t') (py_o c) → eX5_carFor (py_O t) (py_o j) (py_o n) K) ∧
      pr_RW s' t' ∧ (∀ g i, g ≠ 5 → g ≠ 6 → g ≠ 13 → s' g i = s g i) ∧ (∀ g i, g ≠ 41 → g ≠ 42 → t' g i = t g i) ∧
      s' 6 c ≠ 0 ∧ (∀ c' : Nat, s 6 c' ≠ 0 → s' 6 c' = s 6 c') ∧ (s 13 0 < 40 → s' 13 0 < 40 ∨ t 37 c = 0) ∧ (s' 5 0 = s 5 0 ∧ t' 42 0 = t 42 0 ∧ t 41 0 ≤ t' 41 0) := by
  have h0 := h.1
  have hc0 := h.cnt
  have hsz := h.2.1 j hj
  have hl := h.end_le hj
  obtain ⟨l1, l2, l3⟩ := h.2.2.2.1 j ((t 41 j).toNat - 1) hj (by omega)
  have hn40 := h.2.2.2.2.1 j hj
  have hm57 := h.2.2.2.2.2.2.1
  generalize hlc : t 42 (40 * j + ((t 41 j).toNat - 1)) = lc at l1 l2 l3
  have hfl := hfil lc.toNat (by omega)
  have elc : lc = (lc.toNat : Nat) := by omega
  by_cases hA : lc ≠ e ∧ t 37 lc.toNat + n ≤ 32
  · refine ⟨lc.toNat, s, t, by omega, by omega, hA.2, fun K hK => ?_, fun K hK => ?_, h, fun g i _ _ _ => rfl, fun g i _ _ => rfl, by omega, fun c' _ => rfl, fun c => Or.inl c, rfl, rfl, Int.le_refl _⟩
    · unfold eX3_carInto
      try simp only [py_O_ap, py_l0, py_l1, py_l2, py_l3, py_l4, py_l5, py_l6, py_l7, py_l8, py_l9, py_l12, py_l16, py_l32, py_l40, py_l100, py_l640, py_l1280, py_neg, py_add, py_sub, py_mul, py_stO]
      refine pr_lastCarOf h hj ?_
      rw [hlc]
      refine pr_roomInStep l2 (by omega) (fun c => absurd c (by omega)) (fun _ => ?_)
      refine py_ilt (fun c => absurd c (by omega)) (fun _ => ?_)
      rw [elc]; exact hK
    · unfold eX5_carFor
      try simp only [py_O_ap, py_l0, py_l1, py_l2, py_l3, py_l4, py_l5, py_l6, py_l7, py_l8, py_l9, py_l12, py_l16, py_l32, py_l40, py_l100, py_l640, py_l1280, py_neg, py_add, py_sub, py_mul, py_stO]
      refine pm_lastCar h hj ?_
      rw [hlc]
      try simp only [py_O_ap, py_l0, py_l1, py_l2, py_l3, py_l4, py_l5, py_l6, py_l7, py_l8, py_l9, py_l12, py_l16, py_l32, py_l40, py_l100, py_l640, py_l1280, py_neg, py_add, py_sub, py_mul, py_stO]
      refine py_ieq (fun c => absurd c (by omega)) (fun _ => ?_)
      rw [elc]
      refine pm_hasRoom (by omega) hfl.2 (by omega) (fun _ => ?_) (fun c => absurd c (by omega))
      exact py_ieq (fun c => absurd c (by omega)) (fun _ => hK)
  · have hcls : ∀ K : ty_S → Int32 → Prop, eX1_countFree (py_O s) (fun S3 r3 => if r3 ≤ py_o 0 then ∃ n9, lX3_carInto_50 K n9 (py_o n) (S3 13 0 - py_o 1) S3 else eX1_addCar S3 (py_o (t 40 j)) fun S7 r7 => K S7 r7) → eX3_carInto (py_O s) (py_o (t 40 j)) (py_o n) K := fun K hK => by
      unfold eX3_carInto
      try simp only [py_O_ap, py_l0, py_l1, py_l2, py_l3, py_l4, py_l5, py_l6, py_l7, py_l8, py_l9, py_l12, py_l16, py_l32, py_l40, py_l100, py_l640, py_l1280, py_neg, py_add, py_sub, py_mul, py_stO]
      refine pr_lastCarOf h hj ?_
      rw [hlc]
      refine pr_roomInStep l2 (by omega) (fun c => ?_) (fun c => ?_)
      · exact py_ilt (fun _ => hK) (fun c => absurd c (by omega))
      · exact py_ilt (fun _ => hK) (fun c2 => absurd (⟨by omega, by omega⟩ : lc ≠ e ∧ t 37 lc.toNat + n ≤ 32) hA)
    have hmod : ∀ K : ty_S → Int32 → Prop, jX5_carFor_25 K (py_o j) (py_o n) (py_O t) → eX5_carFor (py_O t) (py_o j) (py_o n) K := fun K hK => by
      unfold eX5_carFor
      try simp only [py_O_ap, py_l0, py_l1, py_l2, py_l3, py_l4, py_l5, py_l6, py_l7, py_l8, py_l9, py_l12, py_l16, py_l32, py_l40, py_l100, py_l640, py_l1280, py_neg, py_add, py_sub, py_mul, py_stO]
      refine pm_lastCar h hj ?_
      rw [hlc]
      try simp only [py_O_ap, py_l0, py_l1, py_l2, py_l3, py_l4, py_l5, py_l6, py_l7, py_l8, py_l9, py_l12, py_l16, py_l32, py_l40, py_l100, py_l640, py_l1280, py_neg, py_add, py_sub, py_mul, py_stO]
      refine py_ieq (fun _ => hK) (fun c => ?_)
      rw [elc]
      refine pm_hasRoom (by omega) hfl.2 (by omega) (fun c2 => absurd (⟨by omega, by omega⟩ : lc ≠ e ∧ t 37 lc.toNat + n ≤ 32) hA) (fun _ => ?_)
      exact py_ieq (fun _ => hK) (fun c => absurd rfl c)
    by_cases hN : s 13 0 < 40
    · obtain ⟨c, hc, hf, hlst⟩ := pp_least h hN
      have hce : (c : Int) ≠ e := fun c2 => hse (by omega) (by rw [← c2]; simpa using hf)
      obtain ⟨z1, z2⟩ := hfree0 c hc hf
      have hpos0 : pr_off t j + (t 41 j).toNat ≠ 0 := by omega
      have h41 := h.2.1 0 (by omega)
      refine ⟨c, pr_ins s (pr_off t j + (t 41 j).toNat) c (t 40 j), pm_cpl t j c, hc, hce, by omega, fun K hK => hcls K ?_, fun K hK => hmod K ?_, h.add hN hj hc hf, fun g i h5 h6 h13 => ?_, fun g i h41 h42 => ?_, ?_, fun c' hc' => ?_, fun _ => Or.inr z1, ?_, ?_, ?_⟩
      · refine pr_countFree ?_
        refine py_ile (fun c => absurd c (by omega)) (fun _ => ?_)
        exact pr_addCar_in h hN hj hc hf hlst hK
      · unfold jX5_carFor_25
        try simp only [py_O_ap, py_l0, py_l1, py_l2, py_l3, py_l4, py_l5, py_l6, py_l7, py_l8, py_l9, py_l12, py_l16, py_l32, py_l40, py_l100, py_l640, py_l1280, py_neg, py_add, py_sub, py_mul, py_stO]
        refine pm_freeCar h (fun c' hc' h1 h2 => ?_) (fun h1 => absurd hf (h1 c hc))
        have e : c' = c := by
          rcases Nat.lt_trichotomy c' c with e | e | e
          · exact absurd h1 (hlst c' e)
          · exact e
          · exact absurd hf (h2 c e)
        subst e
        refine py_ilt (fun c => absurd c (by omega)) (fun _ => ?_)
        exact pm_couple (by omega) (by omega) hc hK
      · simp [pr_ins, h5, h6, h13]
      · simp only [pm_cpl, h41, h42, if_false]
        by_cases e3 : g = 37 ∨ g = 38
        · rw [if_pos e3]
          by_cases e4 : i = c
          · rw [if_pos e4, e4]
            rcases e3 with e3 | e3 <;> rw [e3] <;> omega
          · rw [if_neg e4]
        · rw [if_neg e3]
      · simp [pr_ins]; omega
      · have : c' ≠ c := fun e => hc' (by rw [e]; exact hf)
        simp [pr_ins, this]
      · have : 0 < pr_off t j + (t 41 j).toNat := by omega
        simp [pr_ins, this]
      · have : 0 ≠ 40 * j + (t 41 j).toNat := by omega
        simp [pm_cpl, this]
      · simp only [pm_cpl]
        by_cases e3 : 0 = j
        · simp [← e3]; omega
        · simp [e3]
    · rcases hroom with hr | ⟨f, hf1, hf2, hf3, hf4⟩
      · exact absurd hr hN
      · obtain ⟨k, hk1, hk2⟩ := h.2.2.2.2.2.2.2.1 f hf1 hf2
        obtain ⟨m, hm1, hm2, hm3⟩ := py_greatest (P := fun k => s 5 k ≠ e ∧ t 37 (s 5 k).toNat + n ≤ 32) (fun k => Classical.em _) (n := (s 13 0).toNat) (k := k) (by omega) ⟨by omega, by rw [hk2]; simpa using hf4⟩
        have hcm := h.car (i := m) (by omega)
        have em : s 5 m = ((s 5 m).toNat : Nat) := by omega
        refine ⟨(s 5 m).toNat, s, t, by omega, by omega, hm2.2, fun K hK => hcls K ?_, fun K hK => hmod K ?_, h, fun g i _ _ _ => rfl, fun g i _ _ => rfl, ?_, fun c' _ => rfl, fun c => Or.inl c, rfl, rfl, Int.le_refl _⟩
        · refine pr_countFree ?_
          refine py_ile (fun _ => ?_) (fun c => absurd c (by omega))
          try simp only [py_O_ap, py_l0, py_l1, py_l2, py_l3, py_l4, py_l5, py_l6, py_l7, py_l8, py_l9, py_l12, py_l16, py_l32, py_l40, py_l100, py_l640, py_l1280, py_neg, py_add, py_sub, py_mul, py_stO]
          exact pp_scanC h hes he hn hfil (by omega) hm2 (fun k h1 h2 => hm3 k h1 (by omega)) (by rw [em]; exact hK)
        · unfold jX5_carFor_25
          try simp only [py_O_ap, py_l0, py_l1, py_l2, py_l3, py_l4, py_l5, py_l6, py_l7, py_l8, py_l9, py_l12, py_l16, py_l32, py_l40, py_l100, py_l640, py_l1280, py_neg, py_add, py_sub, py_mul, py_stO]
          refine pm_freeCar h (fun c' hc' h1 h2 => absurd h1 (h.nofree (by omega) c' hc')) (fun _ => ?_)
          refine py_ilt (fun _ => ?_) (fun c => absurd c (by omega))
          exact pp_scanM h het he hn hfil (by omega) hm2 (fun k h1 h2 => hm3 k h1 (by omega)) (by rw [em]; exact hK)
        · obtain ⟨-, j', k', hj', hk', h2, h3, h4, h5, h6⟩ := hcm
          omega

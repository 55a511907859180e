/-! PURE: thing, word, train, car, told -/
section PC5
variable {s t : py_Z} {n : Nat} {m : Int}
theorem pr_needWhat {a b : Int} {K : ty_S → Prop} {KX : Nat → ty_S → Prop} (ra : -2147483648 ≤ a ∧ a < 2147483648) (rb : 0 ≤ b ∧ b < 100) (h1 : 0 ≤ a → a ≤ b → K (py_O s)) (h0 : ¬ (0 ≤ a ∧ a ≤ b) → KX 0 (py_O s)) : eX4_needWhat (py_O s) (py_o a) (py_o b) K KX := by
  unfold eX4_needWhat
  try simp only [py_O_ap, py_l0, py_l1, py_l2, py_l3, py_l4, py_l5, py_l6, py_l7, py_l8, py_l9, py_l12, py_l16, py_l32, py_l40, py_l100, py_l640, py_l1280, py_neg, py_add, py_sub, py_mul, py_stO]
  exact py_ilt (fun c => h0 (by omega)) (fun c => py_ile (fun c2 => h1 c c2) (fun c2 => h0 (by omega)))
theorem ph_callThing (h : ph_R s t n m) {a w : Int} (ra : -2147483648 ≤ a ∧ a < 2147483648) (rw' : -2147483648 ≤ w ∧ w < 2147483648) : ph_Out (fun K KX => eX4_thing (py_O s) (py_o a) (py_o w) K KX) (fun K => eX5_thing (py_O t) (py_o a) (py_o w) K) py_codeT (n + 1) (m + 101) := by
  have hthr : ∀ (v : Int), 0 < v → v < 10 → ∀ K : ty_S → Int32 → Prop, K (py_O (py_st t 60 0 v)) (py_o 0) → jX5_thing_35 K (py_o a) (py_o w) (py_o v) (py_O t) := fun v h1 h2 K hK => by
    unfold jX5_thing_35
    try simp only [py_O_ap, py_l0, py_l1, py_l2, py_l3, py_l4, py_l5, py_l6, py_l7, py_l8, py_l9, py_l12, py_l16, py_l32, py_l40, py_l100, py_l640, py_l1280, py_neg, py_add, py_sub, py_mul, py_stO]
    exact py_ile (fun c => absurd c (by omega)) (fun _ => hK)
  by_cases haw : (0 ≤ a ∧ a < 16) ∧ 0 ≤ w ∧ w ≤ 4
  · obtain ⟨q1, q2⟩ := h.pv (r := a.toNat) (by omega)
    by_cases h43 : 0 ≤ t 43 a.toNat
    · obtain ⟨c, k, hc, hk, g1, g2, g3, g4, g5, g6, g7, g8, g9, g10, g11, g12, g13⟩ := h.thing q1 h43
      have h6 : s 6 c ≠ 0 := fun e1 => by have := (h.2.1.1 c hc).2.2.2.2.2.1 e1; omega
      obtain ⟨j, kk, hj, hkk, j1, j2, j3, j4, j5⟩ := (h.1.six hc).resolve_left h6
      have h50 := h.1.1
      have h2 := h.t60 0
      refine ph_ret h (r := if w = 0 then t 30 (t 43 a.toNat).toNat else if w = 1 then 32 * t 31 (t 43 a.toNat).toNat + t 32 (t 43 a.toNat).toNat else if w = 2 then t 40 j else if w = 3 then t 33 (t 43 a.toNat).toNat else t 34 (t 43 a.toNat).toNat) (fun K KX hK => ?_) (fun K hK => ?_)
      · unfold eX4_thing
        try simp only [py_O_ap, py_l0, py_l1, py_l2, py_l3, py_l4, py_l5, py_l6, py_l7, py_l8, py_l9, py_l12, py_l16, py_l32, py_l40, py_l100, py_l640, py_l1280, py_neg, py_add, py_sub, py_mul, py_stO]
        refine pr_needWhat rw' (by omega) (fun _ _ => ?_) (fun c => absurd haw.2 c)
        refine pr_heldThing h ra (fun _ _ _ => ?_) (fun _ _ c => absurd c (by omega)) (fun c => absurd haw.1 c)
        have hw9 : s 0 (ph_E t (t 43 a.toNat) + 1).toNat = t 33 (t 43 a.toNat).toNat + 16 * t 34 (t 43 a.toNat).toNat := by
          rw [g6, show (((32 * c + ph_pos t c k : Nat) : Int) + 1).toNat = 32 * c + ph_pos t c k + 1 by omega]; exact g10
        refine py_ieq (fun e1 => ?_) (fun e1 => ?_)
        · rw [if_pos e1] at hK
          rw [g6]
          refine pr_labelOf (fun _ _ => ?_) (fun c => absurd c (by omega))
          simp only [Int.toNat_natCast]
          rw [g13]; exact hK
        · rw [if_neg e1] at hK
          refine py_ieq (fun e2 => ?_) (fun e2 => ?_)
          · rw [if_pos e2] at hK
            have : ph_E t (t 43 a.toNat) = 32 * t 31 (t 43 a.toNat).toNat + t 32 (t 43 a.toNat).toNat := by unfold ph_E; rw [if_neg (by omega)]
            rw [this]; exact hK
          · rw [if_neg e2] at hK
            refine py_ieq (fun e3 => ?_) (fun e3 => ?_)
            · rw [if_pos e3] at hK
              rw [g6]
              refine pr_carOf (fun _ _ => ?_) (fun c => absurd c (by omega))
              rw [show ((32 * c + ph_pos t c k : Nat) : Int) / 32 = c by omega]
              refine pr_trainOf (fun _ _ => ?_) (fun c => absurd c (by omega))
              simp only [Int.toNat_natCast]
              rw [j2]; exact hK
            · rw [if_neg e3] at hK
              refine py_ieq (fun e4 => ?_) (fun e4 => ?_)
              · rw [if_pos e4] at hK
                exact pr_references (r := t 33 (t 43 a.toNat).toNat) (n := t 34 (t 43 a.toNat).toNat) (by omega) (by omega) hw9 (by omega) (by omega) (by omega) (by omega) hK
              · rw [if_neg e4] at hK
                exact pr_numbers (r := t 33 (t 43 a.toNat).toNat) (n := t 34 (t 43 a.toNat).toNat) (by omega) (by omega) hw9 (by omega) (by omega) (by omega) (by omega) hK
      · have hj0 : jX5_thing_35 K (py_o a) (py_o w) (py_o 0) (py_O t) := by
          unfold jX5_thing_35
          try simp only [py_O_ap, py_l0, py_l1, py_l2, py_l3, py_l4, py_l5, py_l6, py_l7, py_l8, py_l9, py_l12, py_l16, py_l32, py_l40, py_l100, py_l640, py_l1280, py_neg, py_add, py_sub, py_mul, py_stO]
          rw [if_pos (Int32.le_refl _)]
          refine py_and ?_
          rw [py_nat (by omega)]
          try simp only [py_O_ap, py_l0, py_l1, py_l2, py_l3, py_l4, py_l5, py_l6, py_l7, py_l8, py_l9, py_l12, py_l16, py_l32, py_l40, py_l100, py_l640, py_l1280, py_neg, py_add, py_sub, py_mul, py_stO]
          refine py_ieq (fun e1 => py_and ?_) (fun e1 => ?_)
          · rw [if_pos e1] at hK
            rw [py_nat (by omega)]; exact hK
          · rw [if_neg e1] at hK
            have e9 : t 43 a.toNat = (((t 43 a.toNat).toNat : Nat) : Int) := by omega
            refine py_ieq (fun e2 => ?_) (fun e2 => ?_)
            · rw [if_pos e2] at hK
              rw [e9]
              refine pm_place g2 ?_
              rw [py_sn (by decide), py_sn (by decide)]
              exact hK
            · rw [if_neg e2] at hK
              refine py_ieq (fun e3 => py_and ?_) (fun e3 => ?_)
              · rw [if_pos e3] at hK
                rw [py_nat (by omega)]
                rw [g4]
                refine pm_trainOf h2.1 hc (fun j8 hj8 e10 => ?_) (fun e10 => absurd e10 h6)
                rw [py_sn (by decide)] at hj8 e10
                have e11 : j8 = j := h.1.num hj8 hj (by rw [← e10, j2])
                subst e11
                refine py_and ?_
                rw [py_nat (by omega)]
                simp only [Int.toNat_natCast]
                try simp only [py_O_ap, py_l0, py_l1, py_l2, py_l3, py_l4, py_l5, py_l6, py_l7, py_l8, py_l9, py_l12, py_l16, py_l32, py_l40, py_l100, py_l640, py_l1280, py_neg, py_add, py_sub, py_mul, py_stO]
                rw [py_sn (by decide)]
                exact hK
              · rw [if_neg e3] at hK
                refine py_ieq (fun e4 => py_and ?_) (fun e4 => py_and ?_)
                · rw [if_pos e4] at hK
                  rw [py_nat (by omega)]; exact hK
                · rw [if_neg e4] at hK
                  rw [py_nat (by omega)]; exact hK
        unfold eX5_thing
        try simp only [py_O_ap, py_l0, py_l1, py_l2, py_l3, py_l4, py_l5, py_l6, py_l7, py_l8, py_l9, py_l12, py_l16, py_l32, py_l40, py_l100, py_l640, py_l1280, py_neg, py_add, py_sub, py_mul, py_stO]
        refine pm_noRegister ra (fun _ _ => ?_) (fun c => absurd haw.1 c)
        refine py_ieq (fun _ => ?_) (fun c => absurd rfl c)
        refine py_ilt (fun c => absurd c (by omega)) (fun _ => py_ile (fun _ => py_and ?_) (fun c => absurd c (by omega)))
        rw [py_nat (by omega)]
        exact py_ile (fun _ => hj0) (fun c => absurd c (by omega))
    · have h43b : -1 ≤ t 43 a.toNat := by rcases q1 with e | ⟨e, _⟩ <;> omega
      refine ph_thr h (k := 1) (v := 2) (by omega) rfl (by decide) (fun K KX hK => ?_) (fun K hK => ?_)
      · unfold eX4_thing
        try simp only [py_O_ap, py_l0, py_l1, py_l2, py_l3, py_l4, py_l5, py_l6, py_l7, py_l8, py_l9, py_l12, py_l16, py_l32, py_l40, py_l100, py_l640, py_l1280, py_neg, py_add, py_sub, py_mul, py_stO]
        refine pr_needWhat rw' (by omega) (fun _ _ => ?_) (fun c => absurd haw.2 c)
        exact pr_heldThing h ra (fun _ _ c => absurd c h43) (fun _ _ _ => hK) (fun c => absurd haw.1 c)
      · unfold eX5_thing
        try simp only [py_O_ap, py_l0, py_l1, py_l2, py_l3, py_l4, py_l5, py_l6, py_l7, py_l8, py_l9, py_l12, py_l16, py_l32, py_l40, py_l100, py_l640, py_l1280, py_neg, py_add, py_sub, py_mul, py_stO]
        refine pm_noRegister ra (fun _ _ => ?_) (fun c => absurd haw.1 c)
        refine py_ieq (fun _ => ?_) (fun c => absurd rfl c)
        refine py_ilt (fun c => absurd c (by omega)) (fun _ => py_ile (fun _ => py_and ?_) (fun c => absurd c (by omega)))
        rw [py_nat (by omega)]
        exact py_ile (fun c => absurd c h43) (fun _ => hthr 2 (by omega) (by omega) K hK)
  · refine ph_thr h (k := 0) (v := 1) (by omega) rfl (by decide) (fun K KX hK => ?_) (fun K hK => ?_)
    · unfold eX4_thing
      try simp only [py_O_ap, py_l0, py_l1, py_l2, py_l3, py_l4, py_l5, py_l6, py_l7, py_l8, py_l9, py_l12, py_l16, py_l32, py_l40, py_l100, py_l640, py_l1280, py_neg, py_add, py_sub, py_mul, py_stO]
      refine pr_needWhat rw' (by omega) (fun w1 w2 => ?_) (fun _ => hK)
      exact pr_heldThing h ra (fun a1 a2 _ => absurd ⟨⟨a1, a2⟩, w1, w2⟩ haw) (fun a1 a2 _ => absurd ⟨⟨a1, a2⟩, w1, w2⟩ haw) (fun _ => hK)
    · have hj : jX5_thing_17 K (py_o a) (py_o w) (py_O t) := hthr 1 (by omega) (by omega) K hK
      unfold eX5_thing
      try simp only [py_O_ap, py_l0, py_l1, py_l2, py_l3, py_l4, py_l5, py_l6, py_l7, py_l8, py_l9, py_l12, py_l16, py_l32, py_l40, py_l100, py_l640, py_l1280, py_neg, py_add, py_sub, py_mul, py_stO]
      refine pm_noRegister ra (fun a1 a2 => ?_) (fun _ => py_ieq (fun c => absurd c (by omega)) (fun _ => hj))
      refine py_ieq (fun _ => ?_) (fun c => absurd rfl c)
      exact py_ilt (fun _ => hj) (fun w1 => py_ile (fun w2 => absurd ⟨⟨a1, a2⟩, w1, w2⟩ haw) (fun _ => hj))
/-- the things of one train -/
theorem pm_sumIn (h : ph_R s t n m) {j : Nat} (hj : (j : Int) < t 50 0) : ∀ k : Nat, (k : Int) ≤ t 41 j → py_sum (fun i => s 3 (s 5 (pr_off t j + i)).toNat) k = py_sum (fun i => t 38 (t 42 (40 * j + i)).toNat) k
  | 0, _ => rfl
  | k + 1, hk => by
    simp only [py_sum]
    obtain ⟨d1, d2, d3⟩ := h.1.2.2.2.1 j k hj (by omega)
    rw [pm_sumIn h hj k (by omega), d1, (h.2.1.1 (t 42 (40 * j + k)).toNat (by omega)).1]
theorem ph_callTrain (h : ph_R s t n m) {a w : Int} (ra : -2147483648 ≤ a ∧ a < 2147483648) (rw' : -2147483648 ≤ w ∧ w < 2147483648) : ph_Out (fun K KX => eX4_train (py_O s) (py_o a) (py_o w) K KX) (fun K => eX5_train (py_O t) (py_o a) (py_o w) K) py_code0 (n + 1) (m + 101) := by
  have h50 := h.1.1
  have hc0 := h.1.cnt
  have h2 := h.t60 0
  by_cases haw : (0 ≤ a ∧ a < t 50 0) ∧ 0 ≤ w ∧ w ≤ 2
  · have h41 := h.1.2.1 a.toNat (by omega)
    have hlt := h.1.lt (j := a.toNat) (k := 0) (by omega) (by omega)
    have hend := h.1.end_le (j := a.toNat) (by omega)
    obtain ⟨d1, d2, d3⟩ := h.1.2.2.2.1 a.toNat 0 (by omega) (by omega)
    simp only [Nat.add_zero] at d1 d2 d3 hlt
    obtain ⟨r, hr⟩ : ∃ r, r = (if w = 0 then t 40 a.toNat else if w = 1 then t 41 a.toNat else py_sum (fun i => t 38 (t 42 (40 * a.toNat + i)).toNat) (t 41 a.toNat).toNat) := ⟨_, rfl⟩
    refine ph_ret h (r := r) (fun K KX hK => ?_) (fun K hK => ?_)
    · unfold eX4_train
      try simp only [py_O_ap, py_l0, py_l1, py_l2, py_l3, py_l4, py_l5, py_l6, py_l7, py_l8, py_l9, py_l12, py_l16, py_l32, py_l40, py_l100, py_l640, py_l1280, py_neg, py_add, py_sub, py_mul, py_stO]
      refine pr_needWhat rw' (by omega) (fun _ _ => ?_) (fun c => absurd haw.2 c)
      unfold eX4_startOfTrain
      try simp only [py_O_ap, py_l0, py_l1, py_l2, py_l3, py_l4, py_l5, py_l6, py_l7, py_l8, py_l9, py_l12, py_l16, py_l32, py_l40, py_l100, py_l640, py_l1280, py_neg, py_add, py_sub, py_mul, py_stO]
      refine pr_startOf h.1 ra (fun _ _ => ?_) (fun c => absurd c (by omega))
      refine py_ieq (fun c => absurd c (by omega)) (fun _ => ?_)
      refine pr_carAt hc0 (fun _ _ => ?_) (fun c => absurd c (by omega))
      simp only [Int.toNat_natCast]
      refine pr_trainOf (fun _ _ => ?_) (fun c => absurd c (by omega))
      rw [d1, d3]
      refine pr_carsOf h.1 (by omega) ?_
      refine py_ieq (fun e1 => ?_) (fun e1 => ?_)
      · rw [hr, if_pos e1] at hK; exact hK
      · rw [if_neg e1] at hr
        refine py_ieq (fun e2 => ?_) (fun e2 => ?_)
        · rw [hr, if_pos e2] at hK; exact hK
        · rw [if_neg e2] at hr
          rw [show t 41 a.toNat = (((t 41 a.toNat).toNat : Nat) : Int) by omega]
          refine pr_thingsIn hc0 (by omega) (fun k hk => (h.1.car hk).1) (fun c hc => by have := h.2.1.1 c hc; have h3' := this.1; have := this.2.2.1; omega) ?_
          rw [pm_sumIn h (by omega) _ (by omega), ← hr]
          exact hK
    · have key : ∀ d k : Nat, (k : Int) + d = t 41 a.toNat → ∃ n9, lX5_train_44 K n9 (py_o a) (py_o w) (py_o (py_sum (fun i => t 38 (t 42 (40 * a.toNat + i)).toNat) k)) (py_o k) (py_O (py_st t 60 0 0)) := by
        intro d
        induction d with
        | zero =>
          intro k hk
          refine ⟨1, ?_⟩
          unfold lX5_train_44
          try simp only [py_O_ap, py_l0, py_l1, py_l2, py_l3, py_l4, py_l5, py_l6, py_l7, py_l8, py_l9, py_l12, py_l16, py_l32, py_l40, py_l100, py_l640, py_l1280, py_neg, py_add, py_sub, py_mul, py_stO]
          refine py_and ?_
          rw [py_nat (by omega)]
          have e41 : py_st t 60 0 0 41 a.toNat = t 41 a.toNat := py_sn (by decide)
          have e40 : py_st t 60 0 0 40 a.toNat = t 40 a.toNat := py_sn (by decide)
          refine py_ile (fun _ => ?_) (fun c => absurd c (by omega))
          refine py_ieq (fun e1 => py_and ?_) (fun e1 => ?_)
          · rw [hr, if_pos e1] at hK
            rw [e40]; exact hK
          · rw [if_neg e1] at hr
            refine py_ieq (fun e2 => py_and ?_) (fun e2 => ?_)
            · rw [hr, if_pos e2] at hK
              rw [e41]; exact hK
            · rw [if_neg e2] at hr
              rw [show k = (t 41 a.toNat).toNat by omega, ← hr]
              exact hK
        | succ d ih =>
          intro k hk
          obtain ⟨n9, hn9⟩ := ih (k + 1) (by omega)
          obtain ⟨q1, q2, q3⟩ := h.1.2.2.2.1 a.toNat k (by omega) (by omega)
          have e41 : py_st t 60 0 0 41 a.toNat = t 41 a.toNat := py_sn (by decide)
          refine ⟨n9 + 1, ?_⟩
          unfold lX5_train_44
          try simp only [py_O_ap, py_l0, py_l1, py_l2, py_l3, py_l4, py_l5, py_l6, py_l7, py_l8, py_l9, py_l12, py_l16, py_l32, py_l40, py_l100, py_l640, py_l1280, py_neg, py_add, py_sub, py_mul, py_stO]
          refine py_and ?_
          rw [py_nat (by omega)]
          refine py_ile (fun c => absurd c (by omega)) (fun _ => py_and ?_)
          rw [py_nat (by omega), show (40 * a + (k : Int)).toNat = 40 * a.toNat + k by omega, py_sn (by decide)]
          refine py_and ?_
          rw [py_nat (by omega), py_sn (by decide)]
          exact hn9
      have hj : jX5_train_27 K (py_o a) (py_o w) (py_o 0) (py_O t) := by
        unfold jX5_train_27
        try simp only [py_O_ap, py_l0, py_l1, py_l2, py_l3, py_l4, py_l5, py_l6, py_l7, py_l8, py_l9, py_l12, py_l16, py_l32, py_l40, py_l100, py_l640, py_l1280, py_neg, py_add, py_sub, py_mul, py_stO]
        rw [if_pos (Int32.le_refl _)]
        exact key (t 41 a.toNat).toNat 0 (by omega)
      unfold eX5_train
      try simp only [py_O_ap, py_l0, py_l1, py_l2, py_l3, py_l4, py_l5, py_l6, py_l7, py_l8, py_l9, py_l12, py_l16, py_l32, py_l40, py_l100, py_l640, py_l1280, py_neg, py_add, py_sub, py_mul, py_stO]
      exact py_ilt (fun c => absurd c (by omega)) (fun _ => py_ile (fun c => absurd c (by omega)) (fun _ => py_ilt (fun c => absurd c (by omega)) (fun _ => py_ile (fun _ => hj) (fun c => absurd c (by omega)))))
  · refine ph_thr h (k := 0) (v := 1) (by omega) rfl (by decide) (fun K KX hK => ?_) (fun K hK => ?_)
    · unfold eX4_train
      try simp only [py_O_ap, py_l0, py_l1, py_l2, py_l3, py_l4, py_l5, py_l6, py_l7, py_l8, py_l9, py_l12, py_l16, py_l32, py_l40, py_l100, py_l640, py_l1280, py_neg, py_add, py_sub, py_mul, py_stO]
      refine pr_needWhat rw' (by omega) (fun w1 w2 => ?_) (fun _ => hK)
      unfold eX4_startOfTrain
      try simp only [py_O_ap, py_l0, py_l1, py_l2, py_l3, py_l4, py_l5, py_l6, py_l7, py_l8, py_l9, py_l12, py_l16, py_l32, py_l40, py_l100, py_l640, py_l1280, py_neg, py_add, py_sub, py_mul, py_stO]
      refine pr_startOf h.1 ra (fun a1 a2 => absurd ⟨⟨a1, a2⟩, w1, w2⟩ haw) (fun _ => ?_)
      exact py_ieq (fun _ => hK) (fun c => absurd rfl c)
    · have hj : jX5_train_22 K (py_o a) (py_o w) (py_O t) := by
        unfold jX5_train_22 jX5_train_27
        try simp only [py_O_ap, py_l0, py_l1, py_l2, py_l3, py_l4, py_l5, py_l6, py_l7, py_l8, py_l9, py_l12, py_l16, py_l32, py_l40, py_l100, py_l640, py_l1280, py_neg, py_add, py_sub, py_mul, py_stO]
        exact py_ile (fun c => absurd c (by omega)) (fun _ => hK)
      unfold eX5_train
      try simp only [py_O_ap, py_l0, py_l1, py_l2, py_l3, py_l4, py_l5, py_l6, py_l7, py_l8, py_l9, py_l12, py_l16, py_l32, py_l40, py_l100, py_l640, py_l1280, py_neg, py_add, py_sub, py_mul, py_stO]
      exact py_ilt (fun _ => hj) (fun a1 => py_ile (fun _ => hj) (fun a2 => py_ilt (fun _ => hj) (fun w1 => py_ile (fun w2 => absurd ⟨⟨a1, a2⟩, w1, w2⟩ haw) (fun _ => hj))))
theorem ph_callCar (h : ph_R s t n m) {a k : Int} (ra : -2147483648 ≤ a ∧ a < 2147483648) (rk : -2147483648 ≤ k ∧ k < 2147483648) : ph_Out (fun K KX => eX4_car (py_O s) (py_o a) (py_o k) K KX) (fun K => eX5_car (py_O t) (py_o a) (py_o k) K) py_code0 (n + 1) (m + 101) := by
  have h50 := h.1.1
  have hc0 := h.1.cnt
  have hthr : ∀ K : ty_S → Int32 → Prop, K (py_O (py_st t 60 0 1)) (py_o 0) → jX5_car_27 K (py_o a) (py_o k) (py_O t) := fun K hK => by
    unfold jX5_car_27 jX5_car_32
    try simp only [py_O_ap, py_l0, py_l1, py_l2, py_l3, py_l4, py_l5, py_l6, py_l7, py_l8, py_l9, py_l12, py_l16, py_l32, py_l40, py_l100, py_l640, py_l1280, py_neg, py_add, py_sub, py_mul, py_stO]
    exact py_ile (fun c => absurd c (by omega)) (fun _ => hK)
  by_cases ha : 0 ≤ a ∧ a < t 50 0
  · have h41 := h.1.2.1 a.toNat (by omega)
    have hlt := h.1.lt (j := a.toNat) (k := 0) (by omega) (by omega)
    have hend := h.1.end_le (j := a.toNat) (by omega)
    obtain ⟨d1, d2, d3⟩ := h.1.2.2.2.1 a.toNat 0 (by omega) (by omega)
    simp only [Nat.add_zero] at d1 d2 d3 hlt
    by_cases hk : 0 ≤ k ∧ k < t 41 a.toNat
    · obtain ⟨q1, q2, q3⟩ := h.1.2.2.2.1 a.toNat k.toNat (by omega) (by omega)
      refine ph_ret h (r := t 42 (40 * a.toNat + k.toNat)) (fun K KX hK => ?_) (fun K hK => ?_)
      · unfold eX4_car
        try simp only [py_O_ap, py_l0, py_l1, py_l2, py_l3, py_l4, py_l5, py_l6, py_l7, py_l8, py_l9, py_l12, py_l16, py_l32, py_l40, py_l100, py_l640, py_l1280, py_neg, py_add, py_sub, py_mul, py_stO]
        unfold eX4_startOfTrain
        try simp only [py_O_ap, py_l0, py_l1, py_l2, py_l3, py_l4, py_l5, py_l6, py_l7, py_l8, py_l9, py_l12, py_l16, py_l32, py_l40, py_l100, py_l640, py_l1280, py_neg, py_add, py_sub, py_mul, py_stO]
        refine pr_startOf h.1 ra (fun _ _ => ?_) (fun c => absurd c (by omega))
        refine py_ieq (fun c => absurd c (by omega)) (fun _ => ?_)
        refine pr_carAt hc0 (fun _ _ => ?_) (fun c => absurd c (by omega))
        simp only [Int.toNat_natCast]
        refine pr_trainOf (fun _ _ => ?_) (fun c => absurd c (by omega))
        rw [d1, d3]
        refine py_ilt (fun c => absurd c (by omega)) (fun _ => ?_)
        refine pr_carsOf h.1 (by omega) ?_
        refine py_ilt (fun _ => ?_) (fun c => absurd c (by omega))
        try simp only [py_O_ap, py_l0, py_l1, py_l2, py_l3, py_l4, py_l5, py_l6, py_l7, py_l8, py_l9, py_l12, py_l16, py_l32, py_l40, py_l100, py_l640, py_l1280, py_neg, py_add, py_sub, py_mul, py_stO]
        refine pr_carAt hc0 (fun _ _ => ?_) (fun c => absurd c (by omega))
        rw [show ((pr_off t a.toNat : Nat) + k).toNat = pr_off t a.toNat + k.toNat by omega, q1]
        exact hK
      · have hj : jX5_car_32 K (py_o a) (py_o k) (py_o 0) (py_O t) := by
          unfold jX5_car_32
          try simp only [py_O_ap, py_l0, py_l1, py_l2, py_l3, py_l4, py_l5, py_l6, py_l7, py_l8, py_l9, py_l12, py_l16, py_l32, py_l40, py_l100, py_l640, py_l1280, py_neg, py_add, py_sub, py_mul, py_stO]
          rw [if_pos (Int32.le_refl _)]
          refine py_and ?_
          rw [py_nat (by omega), show (40 * a + k).toNat = 40 * a.toNat + k.toNat by omega]
          exact hK
        unfold eX5_car
        try simp only [py_O_ap, py_l0, py_l1, py_l2, py_l3, py_l4, py_l5, py_l6, py_l7, py_l8, py_l9, py_l12, py_l16, py_l32, py_l40, py_l100, py_l640, py_l1280, py_neg, py_add, py_sub, py_mul, py_stO]
        refine py_ilt (fun c => absurd c (by omega)) (fun _ => py_ile (fun c => absurd c (by omega)) (fun _ => py_ilt (fun c => absurd c (by omega)) (fun _ => py_and ?_)))
        rw [py_nat (by omega)]
        exact py_ilt (fun _ => hj) (fun c => absurd c (by omega))
    · refine ph_thr h (k := 0) (v := 1) (by omega) rfl (by decide) (fun K KX hK => ?_) (fun K hK => ?_)
      · unfold eX4_car
        try simp only [py_O_ap, py_l0, py_l1, py_l2, py_l3, py_l4, py_l5, py_l6, py_l7, py_l8, py_l9, py_l12, py_l16, py_l32, py_l40, py_l100, py_l640, py_l1280, py_neg, py_add, py_sub, py_mul, py_stO]
        unfold eX4_startOfTrain
        try simp only [py_O_ap, py_l0, py_l1, py_l2, py_l3, py_l4, py_l5, py_l6, py_l7, py_l8, py_l9, py_l12, py_l16, py_l32, py_l40, py_l100, py_l640, py_l1280, py_neg, py_add, py_sub, py_mul, py_stO]
        refine pr_startOf h.1 ra (fun _ _ => ?_) (fun c => absurd c (by omega))
        refine py_ieq (fun c => absurd c (by omega)) (fun _ => ?_)
        refine pr_carAt hc0 (fun _ _ => ?_) (fun c => absurd c (by omega))
        simp only [Int.toNat_natCast]
        refine pr_trainOf (fun _ _ => ?_) (fun c => absurd c (by omega))
        rw [d1, d3]
        refine py_ilt (fun _ => hK) (fun c => ?_)
        refine pr_carsOf h.1 (by omega) ?_
        exact py_ilt (fun c2 => absurd ⟨c, c2⟩ hk) (fun _ => hK)
      · unfold eX5_car
        try simp only [py_O_ap, py_l0, py_l1, py_l2, py_l3, py_l4, py_l5, py_l6, py_l7, py_l8, py_l9, py_l12, py_l16, py_l32, py_l40, py_l100, py_l640, py_l1280, py_neg, py_add, py_sub, py_mul, py_stO]
        refine py_ilt (fun c => absurd c (by omega)) (fun _ => py_ile (fun c => absurd c (by omega)) (fun _ => py_ilt (fun _ => hthr K hK) (fun c => py_and ?_)))
        rw [py_nat (by omega)]
        exact py_ilt (fun c2 => absurd ⟨c, c2⟩ hk) (fun _ => hthr K hK)
  · refine ph_thr h (k := 0) (v := 1) (by omega) rfl (by decide) (fun K KX hK => ?_) (fun K hK => ?_)
    · unfold eX4_car
      try simp only [py_O_ap, py_l0, py_l1, py_l2, py_l3, py_l4, py_l5, py_l6, py_l7, py_l8, py_l9, py_l12, py_l16, py_l32, py_l40, py_l100, py_l640, py_l1280, py_neg, py_add, py_sub, py_mul, py_stO]
      unfold eX4_startOfTrain
      try simp only [py_O_ap, py_l0, py_l1, py_l2, py_l3, py_l4, py_l5, py_l6, py_l7, py_l8, py_l9, py_l12, py_l16, py_l32, py_l40, py_l100, py_l640, py_l1280, py_neg, py_add, py_sub, py_mul, py_stO]
      refine pr_startOf h.1 ra (fun a1 a2 => absurd ⟨a1, a2⟩ ha) (fun _ => ?_)
      exact py_ieq (fun _ => hK) (fun c => absurd rfl c)
    · unfold eX5_car
      try simp only [py_O_ap, py_l0, py_l1, py_l2, py_l3, py_l4, py_l5, py_l6, py_l7, py_l8, py_l9, py_l12, py_l16, py_l32, py_l40, py_l100, py_l640, py_l1280, py_neg, py_add, py_sub, py_mul, py_stO]
      exact py_ilt (fun _ => hthr K hK) (fun a1 => py_ile (fun _ => hthr K hK) (fun a2 => absurd ⟨a1, a2⟩ ha))
/-- word -/
theorem ph_callWord (h : ph_R s t n m) {a : Int} (ra : -2147483648 ≤ a ∧ a < 2147483648) : ph_Out (fun K KX => eX4_word (py_O s) (py_o a) K KX) (fun K => eX5_word (py_O t) (py_o a) K) py_code0 (n + 1) (m + 101) := by
  by_cases ha : 0 ≤ a ∧ a < 1280
  · have hCl : ∀ (K : ty_S → Int32 → Prop) (KX : Nat → ty_S → Prop), K (py_O s) (py_o (s 0 a.toNat)) → eX4_word (py_O s) (py_o a) K KX := fun K KX hK => by
      unfold eX4_word
      try simp only [py_O_ap, py_l0, py_l1, py_l2, py_l3, py_l4, py_l5, py_l6, py_l7, py_l8, py_l9, py_l12, py_l16, py_l32, py_l40, py_l100, py_l640, py_l1280, py_neg, py_add, py_sub, py_mul, py_stO]
      refine pr_isPlace (fun _ _ => ?_) (fun c => absurd c (by omega))
      refine py_ieq (fun c => absurd c (by omega)) (fun _ => ?_)
      exact pr_at (fun _ _ => hK) (fun c => absurd c (by omega))
    obtain ⟨c, hc⟩ : ∃ c : Nat, a / 32 = c := ⟨(a / 32).toNat, by omega⟩
    obtain ⟨w, hw⟩ : ∃ w : Nat, a - a / 32 * 32 = w := ⟨(a - a / 32 * 32).toNat, by omega⟩
    have hc40 : c < 40 := by omega
    have hw32 : w < 32 := by omega
    have haN : a.toNat = 32 * c + w := by omega
    obtain ⟨e1, e2, e3, e4, e5, e6, e7, e8⟩ := h.2.1.1 c hc40
    have h2 := h.t60 0
    -- from a thing on
    have key : ∀ (K : ty_S → Int32 → Prop), K (py_O (py_st t 60 0 0)) (py_o (s 0 a.toNat)) → ∀ d k : Nat, (k : Int) + d = t 38 c → ph_pos t c k ≤ w → ∃ n9, lX5_word_42 K n9 (py_o c) (py_o w) (py_o k) (py_O (py_st t 60 0 0)) := by
      intro K hK d
      induction d with
      | zero =>
        intro k hk hp
        have hz : s 0 a.toNat = 0 := by
          rw [haN]
          refine e8 w hw32 ?_
          rw [e4, show (t 38 c).toNat = k by omega]; omega
        have g38 : py_st t 60 0 0 38 c = t 38 c := py_sn (by decide)
        refine ⟨1, ?_⟩
        unfold lX5_word_42
        try simp only [py_O_ap, py_l0, py_l1, py_l2, py_l3, py_l4, py_l5, py_l6, py_l7, py_l8, py_l9, py_l12, py_l16, py_l32, py_l40, py_l100, py_l640, py_l1280, py_neg, py_add, py_sub, py_mul, py_stO]
        refine py_and ?_
        rw [py_nat (by omega)]
        simp only [Int.toNat_natCast]
        rw [hz] at hK
        exact py_ile (fun _ => hK) (fun c => absurd c (by omega))
      | succ d ih =>
        intro k hk hp
        have hkc : (k : Int) < t 38 c := by omega
        obtain ⟨w1, w2, w3, w4, w5, w6, w7⟩ := h.2.1.2.1 c k hc40 hkc
        obtain ⟨f1, f2, f3, f4⟩ := h.2.1.fit hc40 hkc
        obtain ⟨m1, m2, m3⟩ := h.2.2.1.2.2.2.1 c k hc40 (by omega) hkc
        have hx640 : ph_x t c k < 640 := by unfold ph_x; omega
        have e39 : t 39 (16 * c + k) = ((ph_x t c k : Nat) : Int) := by unfold ph_x; omega
        have g38 : py_st t 60 0 0 38 c = t 38 c := py_sn (by decide)
        have g39 : py_st t 60 0 0 39 (16 * c + k) = ((ph_x t c k : Nat) : Int) := by rw [py_sn (by decide)]; exact e39
        have g32 : py_st t 60 0 0 32 (ph_x t c k) = ph_pos t c k := by rw [py_sn (by decide)]; exact m3
        have g33 : py_st t 60 0 0 33 (ph_x t c k) = t 33 (ph_x t c k) := py_sn (by decide)
        have g34 : py_st t 60 0 0 34 (ph_x t c k) = t 34 (ph_x t c k) := py_sn (by decide)
        generalize hx : ph_x t c k = x at *
        have hbase : ∀ n9 : Nat, (w < ph_pos t c k + ph_sz t x → jX5_word_133 K (py_o x) (py_o (w - ph_pos t c k)) (py_o (w - ph_pos t c k - 2)) (py_O (py_st t 60 0 0)) ∨ ∃ y : Int, y = t 35 (12 * x + (w - ph_pos t c k - 2)) ∧ (2 ≤ (w : Int) - ph_pos t c k ∧ (w : Int) - ph_pos t c k - 2 < t 33 x) ∧ jX5_word_134 K (py_o x) (py_o (w - ph_pos t c k)) (py_o (w - ph_pos t c k - 2)) (py_o y) (py_O (py_st t 60 0 0))) → True := fun _ _ => trivial
        by_cases hin : w < ph_pos t c k + ph_sz t x
        · refine ⟨1, ?_⟩
          have hsw : s 0 a.toNat = s 0 (32 * c + ph_pos t c k + (w - ph_pos t c k)) := by rw [haN]; congr 1; omega
          unfold lX5_word_42
          try simp only [py_O_ap, py_l0, py_l1, py_l2, py_l3, py_l4, py_l5, py_l6, py_l7, py_l8, py_l9, py_l12, py_l16, py_l32, py_l40, py_l100, py_l640, py_l1280, py_neg, py_add, py_sub, py_mul, py_stO]
          refine py_and ?_
          rw [py_nat (by omega)]
          simp only [Int.toNat_natCast]
          refine py_ile (fun c => absurd c (by omega)) (fun _ => py_and ?_)
          rw [py_nat (by omega), show ((16 : Int) * c + k).toNat = 16 * c + k by omega, g39]
          refine py_and ?_
          rw [py_nat (by omega)]
          simp only [Int.toNat_natCast]
          rw [g32]
          refine py_ilt (fun c => absurd c (by omega)) (fun _ => ?_)
          refine pm_wordsOf hx640 ?_
          rw [g33, g34]
          refine py_ile (fun c => absurd c (by omega)) (fun _ => ?_)
          have h134 : ∀ y : Int, ((w : Int) - ph_pos t c k - 2 < 0 ∨ t 33 x ≤ (w : Int) - ph_pos t c k - 2 ∨ y = t 35 (12 * x + (w - ph_pos t c k - 2))) → (-1 ≤ y ∧ y < 640) → jX5_word_134 K (py_o x) (py_o (w - ph_pos t c k)) (py_o (w - ph_pos t c k - 2)) (py_o y) (py_O (py_st t 60 0 0)) := fun y hy hyb => by
            unfold jX5_word_134
            try simp only [py_O_ap, py_l0, py_l1, py_l2, py_l3, py_l4, py_l5, py_l6, py_l7, py_l8, py_l9, py_l12, py_l16, py_l32, py_l40, py_l100, py_l640, py_l1280, py_neg, py_add, py_sub, py_mul, py_stO]
            refine py_ieq (fun z1 => py_and ?_) (fun z1 => ?_)
            · rw [py_nat (by omega)]
              simp only [Int.toNat_natCast]
              rw [py_sn (by decide), ← w4, ← show s 0 a.toNat = s 0 (32 * c + ph_pos t c k) by rw [hsw]; congr 1; omega]
              exact hK
            · refine py_ieq (fun z2 => py_and (py_and ?_)) (fun z2 => py_and ?_)
              · rw [py_nat (by omega)]
                simp only [Int.toNat_natCast]
                try simp only [py_O_ap, py_l0, py_l1, py_l2, py_l3, py_l4, py_l5, py_l6, py_l7, py_l8, py_l9, py_l12, py_l16, py_l32, py_l40, py_l100, py_l640, py_l1280, py_neg, py_add, py_sub, py_mul, py_stO]
                rw [g33, g34, ← w5, ← show s 0 a.toNat = s 0 (32 * c + ph_pos t c k + 1) by rw [hsw]; congr 1; omega]
                exact hK
              · rw [py_nat (by omega)]
                simp only [Int.toNat_natCast]
                refine py_ilt (fun z3 => ?_) (fun z3 => py_and (py_and ?_))
                · have hy2 : y = t 35 (12 * x + (w - ph_pos t c k - 2)) := by
                    rcases hy with z4 | z4 | z4
                    · omega
                    · omega
                    · exact z4
                  have h6 := (w6 (w - ph_pos t c k - 2) (by omega)).1
                  rw [← hy2, show 32 * c + ph_pos t c k + 2 + (w - ph_pos t c k - 2) = a.toNat by omega] at h6
                  have hPV := h.2.2.1.2.2.2.2.2 x hx640 m1 (w - ph_pos t c k - 2) (by omega)
                  rw [← hy2] at hPV
                  rw [h6] at hK
                  rcases hPV with z5 | ⟨z5, z6⟩
                  · rw [z5] at hK ⊢
                    exact py_ile (fun c => absurd c (by omega)) (fun _ => hK)
                  · refine py_ile (fun _ => ?_) (fun c => absurd c (by omega))
                    have e9 : y = ((y.toNat : Nat) : Int) := by omega
                    rw [e9]
                    refine pm_place (by omega) ?_
                    rw [py_sn (by decide), py_sn (by decide)]
                    unfold ph_E at hK
                    rw [if_neg (by omega)] at hK
                    exact hK
                · rw [py_nat (by omega)]
                  have h7 := w7 (w - ph_pos t c k - 2 - (t 33 x).toNat) (by omega)
                  rw [show 32 * c + ph_pos t c k + 2 + (t 33 x).toNat + (w - ph_pos t c k - 2 - (t 33 x).toNat) = a.toNat by omega] at h7
                  rw [g33, show ((12 : Int) * x + (w - ph_pos t c k - 2) - t 33 x).toNat = 12 * x + (w - ph_pos t c k - 2 - (t 33 x).toNat) by omega, py_sn (by decide), ← h7]
                  exact hK
          refine py_ilt (fun z1 => ?_) (fun z1 => py_and ?_)
          · unfold jX5_word_133
            rw [py_lm1]
            exact h134 (-1) (Or.inl (by omega)) (by omega)
          · refine py_ile (fun z2 => ?_) (fun z2 => py_and ?_)
            · unfold jX5_word_133
              rw [py_lm1]
              exact h134 (-1) (Or.inr (Or.inl (by omega))) (by omega)
            · rw [py_nat (by omega), show ((12 : Int) * x + (w - ph_pos t c k - 2)).toNat = 12 * x + (w - ph_pos t c k - 2) by omega]
              try simp only [py_O_ap, py_l0, py_l1, py_l2, py_l3, py_l4, py_l5, py_l6, py_l7, py_l8, py_l9, py_l12, py_l16, py_l32, py_l40, py_l100, py_l640, py_l1280, py_neg, py_add, py_sub, py_mul, py_stO]
              rw [py_sn (by decide)]
              have hPV := h.2.2.1.2.2.2.2.2 x hx640 m1 (w - ph_pos t c k - 2) (by omega)
              refine h134 _ (Or.inr (Or.inr rfl)) ?_
              rcases hPV with z5 | ⟨z5, z6⟩ <;> omega
        · have hpe : ph_pos t c (k + 1) = ph_pos t c k + ph_sz t (ph_x t c k) := rfl
          rw [hx] at hpe
          obtain ⟨n9, hn9⟩ := ih (k + 1) (by omega) (by omega)
          refine ⟨n9 + 1, ?_⟩
          unfold lX5_word_42
          try simp only [py_O_ap, py_l0, py_l1, py_l2, py_l3, py_l4, py_l5, py_l6, py_l7, py_l8, py_l9, py_l12, py_l16, py_l32, py_l40, py_l100, py_l640, py_l1280, py_neg, py_add, py_sub, py_mul, py_stO]
          refine py_and ?_
          rw [py_nat (by omega)]
          simp only [Int.toNat_natCast]
          refine py_ile (fun c => absurd c (by omega)) (fun _ => py_and ?_)
          rw [py_nat (by omega), show ((16 : Int) * c + k).toNat = 16 * c + k by omega, g39]
          refine py_and ?_
          rw [py_nat (by omega)]
          simp only [Int.toNat_natCast]
          rw [g32]
          refine py_ilt (fun c => absurd c (by omega)) (fun _ => ?_)
          refine pm_wordsOf hx640 ?_
          rw [g33, g34]
          exact py_ile (fun _ => hn9) (fun c => absurd c (by omega))
    refine ph_ret h (r := s 0 a.toNat) hCl (fun K hK => ?_)
    have hj : jX5_word_17 K (py_o a) (py_o 0) (py_O t) := by
      unfold jX5_word_17
      try simp only [py_O_ap, py_l0, py_l1, py_l2, py_l3, py_l4, py_l5, py_l6, py_l7, py_l8, py_l9, py_l12, py_l16, py_l32, py_l40, py_l100, py_l640, py_l1280, py_neg, py_add, py_sub, py_mul, py_stO]
      rw [if_pos (Int32.le_refl _), py_div (by omega) (by omega)]
      try simp only [py_O_ap, py_l0, py_l1, py_l2, py_l3, py_l4, py_l5, py_l6, py_l7, py_l8, py_l9, py_l12, py_l16, py_l32, py_l40, py_l100, py_l640, py_l1280, py_neg, py_add, py_sub, py_mul, py_stO]
      rw [hc, show a - (c : Int) * 32 = w by omega]
      exact key K hK (t 38 c).toNat 0 (by omega) (by simp [ph_pos])
    unfold eX5_word
    try simp only [py_O_ap, py_l0, py_l1, py_l2, py_l3, py_l4, py_l5, py_l6, py_l7, py_l8, py_l9, py_l12, py_l16, py_l32, py_l40, py_l100, py_l640, py_l1280, py_neg, py_add, py_sub, py_mul, py_stO]
    exact py_ilt (fun c => absurd c (by omega)) (fun _ => py_ilt (fun _ => hj) (fun c => absurd c (by omega)))
  · refine ph_thr h (k := 0) (v := 1) (by omega) rfl (by decide) (fun K KX hK => ?_) (fun K hK => ?_)
    · unfold eX4_word
      try simp only [py_O_ap, py_l0, py_l1, py_l2, py_l3, py_l4, py_l5, py_l6, py_l7, py_l8, py_l9, py_l12, py_l16, py_l32, py_l40, py_l100, py_l640, py_l1280, py_neg, py_add, py_sub, py_mul, py_stO]
      exact pr_isPlace (fun a1 a2 => absurd ⟨a1, a2⟩ ha) (fun _ => py_ieq (fun _ => hK) (fun c => absurd rfl c))
    · have hj : jX5_word_12 K (py_o a) (py_O t) := by
        unfold jX5_word_12 jX5_word_17
        try simp only [py_O_ap, py_l0, py_l1, py_l2, py_l3, py_l4, py_l5, py_l6, py_l7, py_l8, py_l9, py_l12, py_l16, py_l32, py_l40, py_l100, py_l640, py_l1280, py_neg, py_add, py_sub, py_mul, py_stO]
        exact py_ile (fun c => absurd c (by omega)) (fun _ => hK)
      unfold eX5_word
      try simp only [py_O_ap, py_l0, py_l1, py_l2, py_l3, py_l4, py_l5, py_l6, py_l7, py_l8, py_l9, py_l12, py_l16, py_l32, py_l40, py_l100, py_l640, py_l1280, py_neg, py_add, py_sub, py_mul, py_stO]
      exact py_ilt (fun _ => hj) (fun a1 => py_ilt (fun a2 => absurd ⟨a1, a2⟩ ha) (fun _ => hj))
end PC5

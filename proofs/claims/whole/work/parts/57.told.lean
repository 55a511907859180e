/-! PURE: told -/
theorem py_cnt_add {P : Nat → Bool} {f : Nat → Nat} {N : Nat} : ∀ (n : Nat) (Q : Nat → Bool), (∀ a b : Nat, a < b → b < n → f a ≠ f b) → (∀ k : Nat, k < n → f k < N ∧ P (f k) = false) → (∀ x : Nat, x < N → (Q x = true ↔ P x = true ∨ ∃ k : Nat, k < n ∧ f k = x)) → py_cnt Q N = py_cnt P N + n
  | 0, Q, _, _, hQ => by
    rw [Nat.add_zero]
    refine py_cnt_congr (fun x hx => ?_)
    have := hQ x hx
    have h2 : ¬ ∃ k : Nat, k < 0 ∧ f k = x := fun ⟨k, hk, _⟩ => absurd hk (by omega)
    simp only [h2, or_false] at this
    exact Bool.eq_iff_iff.mpr this
  | n + 1, Q, hf, hP, hQ => by
    have h1 : py_cnt (fun x => Q x && decide (x ≠ f n)) N = py_cnt P N + n := by
      refine py_cnt_add n _ (fun a b hab hb => hf a b hab (by omega)) (fun k hk => hP k (by omega)) (fun x hx => ?_)
      have h2 := hQ x hx
      simp only [Bool.and_eq_true, decide_eq_true_eq, h2]
      constructor
      · intro ⟨h3, h4⟩
        rcases h3 with h5 | ⟨k, hk, h5⟩
        · exact Or.inl h5
        · by_cases e : k = n
          · subst e; exact absurd h5.symm h4
          · exact Or.inr ⟨k, by omega, h5⟩
      · intro h3
        rcases h3 with h5 | ⟨k, hk, h5⟩
        · refine ⟨Or.inl h5, fun e => ?_⟩
          rw [e, (hP n (by omega)).2] at h5
          cases h5
        · exact ⟨Or.inr ⟨k, by omega, h5⟩, fun e => hf k n hk (by omega) (h5.trans e)⟩
    rw [py_cnt_up (P := fun x => Q x && decide (x ≠ f n)) (Q := Q) (k := f n) (hP n (by omega)).1 (by simp) ((hQ _ (hP n (by omega)).1).mpr (Or.inr ⟨n, by omega, rfl⟩)) (fun x hx hne => by simp [hne]), h1]
    omega
section PT
variable {s t : py_Z} {n : Nat} {m : Int}
/-- as many things are in the cars as are live -/
theorem ph_R.count (h : ph_R s t n m) : py_sum (fun k => s 3 (s 5 (0 + k)).toNat) (s 13 0).toNat = (py_cnt (fun x => decide (0 < t 30 x)) 640 : Nat) := by
  have hc0 := h.1.cnt
  have key : ∀ i : Nat, (i : Int) ≤ s 13 0 → py_sum (fun k => s 3 (s 5 (0 + k)).toNat) i = (py_cnt (fun x => decide (0 < t 30 x ∧ ∃ j : Nat, j < i ∧ s 5 j = t 31 x)) 640 : Nat) := by
    intro i
    induction i with
    | zero =>
      intro _
      have : py_cnt (fun x => decide (0 < t 30 x ∧ ∃ j : Nat, j < 0 ∧ s 5 j = t 31 x)) 640 = 0 := py_cnt_none (fun x _ => by simp)
      rw [this]; rfl
    | succ i ih =>
      intro hi
      have hcar := (h.1.car (i := i) (by omega)).1
      obtain ⟨c, hc⟩ : ∃ c : Nat, s 5 i = c := ⟨(s 5 i).toNat, by omega⟩
      have hc40 : c < 40 := by omega
      have hCc := h.2.1.1 c hc40
      have h38 := hCc.2.2.1
      have h3 : s 3 (s 5 i).toNat = t 38 c := by rw [hc]; exact hCc.1
      have hadd := py_cnt_add (P := fun x => decide (0 < t 30 x ∧ ∃ j : Nat, j < i ∧ s 5 j = t 31 x)) (f := fun k => ph_x t c k) (N := 640) (t 38 c).toNat (fun x => decide (0 < t 30 x ∧ ∃ j : Nat, j < i + 1 ∧ s 5 j = t 31 x)) (fun a b hab hb e => by
          have := (h.2.2.1.xinj hc40 (k := a) (by omega) hc40 (k' := b) (by omega) e.symm).2
          omega) (fun k hk => by
          obtain ⟨w1, w2⟩ := h.2.1.2.1 c k hc40 (by omega)
          obtain ⟨g1, g2, g3⟩ := h.2.2.1.2.2.2.1 c k hc40 (by omega) (by omega)
          refine ⟨by unfold ph_x; omega, ?_⟩
          simp only [decide_eq_false_iff_not]
          intro ⟨_, j, hj, e⟩
          have := h.1.inj (i := j) (j := i) (by omega) (by omega) (by omega)
          omega) (fun x hx => by
          simp only [decide_eq_true_eq]
          constructor
          · intro ⟨hl, j, hj, e⟩
            by_cases e1 : j = i
            · subst e1
              obtain ⟨c', k, hc', hk, p1, p2, p3⟩ := h.2.2.1.2.2.1 x hx hl
              have : c' = c := by omega
              subst this
              exact Or.inr ⟨k, by omega, p1⟩
            · exact Or.inl ⟨hl, j, by omega, e⟩
          · intro h9
            rcases h9 with ⟨hl, j, hj, e⟩ | ⟨k, hk, e⟩
            · exact ⟨hl, j, by omega, e⟩
            · obtain ⟨g1, g2, g3⟩ := h.2.2.1.2.2.2.1 c k hc40 (by omega) (by omega)
              have e' : ph_x t c k = x := e
              rw [e'] at g1 g2
              exact ⟨g1, i, by omega, by omega⟩)
      simp only [py_sum]
      rw [ih (by omega), Nat.zero_add, h3, hadd]
      omega
  rw [key _ (by omega)]
  have : py_cnt (fun x => decide (0 < t 30 x ∧ ∃ j : Nat, j < (s 13 0).toNat ∧ s 5 j = t 31 x)) 640 = py_cnt (fun x => decide (0 < t 30 x)) 640 := py_cnt_congr (fun x hx => by
    by_cases hl : 0 < t 30 x
    · obtain ⟨c, k, hc, hk, p1, p2, p3, p4, p5⟩ := ph_live h.2.1 h.2.2.1 hx hl
      obtain ⟨j, hj, e⟩ := h.1.2.2.2.2.2.2.2.1 c hc p4
      have : ∃ j : Nat, j < (s 13 0).toNat ∧ s 5 j = t 31 x := ⟨j, by omega, by omega⟩
      exact (decide_eq_true ⟨hl, this⟩).trans (decide_eq_true hl).symm
    · simp [hl])
  rw [this]
theorem ph_callTold (h : ph_R s t n m) {w : Int} (rw' : -2147483648 ≤ w ∧ w < 2147483648) : ph_Out (fun K KX => eX4_told (py_O s) (py_o w) K KX) (fun K => eX5_told (py_O t) (py_o w) K) py_code0 (n + 1) (m + 101) := by
  have hc0 := h.1.cnt
  have h2 := h.t60 0
  obtain ⟨b1, b2, b3, b4, b5, b6, b7, b8, b9, b10⟩ := id h
  by_cases hw : 0 ≤ w ∧ w ≤ 9
  · obtain ⟨r, hr⟩ : ∃ r : Int, r = (if w = 0 then t 50 0 else if w = 1 then 40 - s 13 0 else if w = 2 then (py_cnt (fun x => decide (0 < t 30 x)) 640 : Nat) else if w = 3 then t 52 0 else if w = 4 then t 53 0 else if w = 5 then t 54 0 else if w = 6 then t 55 0 else if w = 7 then t 56 0 else if w = 8 then t 57 0 else t 58 0) := ⟨_, rfl⟩
    refine ph_ret h (r := r) (fun K KX hK => ?_) (fun K hK => ?_)
    · unfold eX4_told
      try simp only [py_O_ap, py_l0, py_l1, py_l2, py_l3, py_l4, py_l5, py_l6, py_l7, py_l8, py_l9, py_l12, py_l16, py_l32, py_l40, py_l100, py_l640, py_l1280, py_neg, py_add, py_sub, py_mul, py_stO]
      refine pr_needWhat rw' (by omega) (fun _ _ => ?_) (fun c => absurd hw c)
      refine py_ieq (fun e1 => ?_) (fun e1 => ?_)
      · rw [hr, if_pos e1] at hK; exact pr_countTrains h.1 hK
      · rw [if_neg e1] at hr
        refine py_ieq (fun e2 => ?_) (fun e2 => ?_)
        · rw [hr, if_pos e2] at hK; exact pr_countFree hK
        · rw [if_neg e2] at hr
          refine py_ieq (fun e3 => ?_) (fun e3 => ?_)
          · rw [hr, if_pos e3, ← h.count] at hK
            try simp only [py_O_ap, py_l0, py_l1, py_l2, py_l3, py_l4, py_l5, py_l6, py_l7, py_l8, py_l9, py_l12, py_l16, py_l32, py_l40, py_l100, py_l640, py_l1280, py_neg, py_add, py_sub, py_mul, py_stO]
            rw [show s 13 0 = (((s 13 0).toNat : Nat) : Int) by omega, show (0 : Int) = ((0 : Nat) : Int) from rfl]
            exact pr_thingsIn hc0 (by omega) (fun k hk => (h.1.car hk).1) (fun c hc => by have := h.2.1.1 c hc; have h3' := this.1; have := this.2.2.1; omega) hK
          · rw [if_neg e3] at hr
            refine py_ieq (fun e4 => ?_) (fun e4 => ?_)
            · rw [hr, if_pos e4, ← b6.1] at hK; exact hK
            · rw [if_neg e4] at hr
              refine py_ieq (fun e5 => ?_) (fun e5 => ?_)
              · rw [hr, if_pos e5, ← b6.2.1] at hK; exact hK
              · rw [if_neg e5] at hr
                refine py_ieq (fun e6 => ?_) (fun e6 => ?_)
                · rw [hr, if_pos e6, ← b6.2.2.1] at hK; exact hK
                · rw [if_neg e6] at hr
                  refine py_ieq (fun e7 => ?_) (fun e7 => ?_)
                  · rw [hr, if_pos e7, ← b6.2.2.2.1] at hK; exact hK
                  · rw [if_neg e7] at hr
                    refine py_ieq (fun e8 => ?_) (fun e8 => ?_)
                    · rw [hr, if_pos e8, ← b6.2.2.2.2] at hK; exact hK
                    · rw [if_neg e8] at hr
                      refine py_ieq (fun e9 => ?_) (fun e9 => ?_)
                      · rw [hr, if_pos e9, ← b1.2.2.2.2.2.2.1.1] at hK; exact hK
                      · rw [hr, if_neg e9, ← b8.1] at hK; exact hK
    · have key : ∀ d x : Nat, x + d = 640 → ∃ n9, lX5_told_32 K n9 (py_o w) (py_o (py_cnt (fun x => decide (0 < t 30 x)) x)) (py_o x) (py_O (py_st t 60 0 0)) := by
        intro d
        induction d with
        | zero =>
          intro x hx
          refine ⟨1, ?_⟩
          have g : ∀ g i, g ≠ 60 → py_st t 60 0 0 g i = t g i := fun g i hg => py_sn hg
          unfold lX5_told_32
          try simp only [py_O_ap, py_l0, py_l1, py_l2, py_l3, py_l4, py_l5, py_l6, py_l7, py_l8, py_l9, py_l12, py_l16, py_l32, py_l40, py_l100, py_l640, py_l1280, py_neg, py_add, py_sub, py_mul, py_stO]
          refine py_ile (fun _ => ?_) (fun c => absurd c (by omega))
          rw [show x = 640 by omega]
          simp only [g 50 0 (by decide), g 52 0 (by decide), g 53 0 (by decide), g 54 0 (by decide), g 55 0 (by decide), g 56 0 (by decide), g 57 0 (by decide), g 58 0 (by decide)]
          refine py_ieq (fun e1 => ?_) (fun e1 => ?_)
          · rw [hr, if_pos e1] at hK; exact hK
          · rw [if_neg e1] at hr
            refine py_ieq (fun e2 => ?_) (fun e2 => ?_)
            · rw [hr, if_pos e2] at hK; exact pm_freeCars h2.1 hK
            · rw [if_neg e2] at hr
              refine py_ieq (fun e3 => ?_) (fun e3 => ?_)
              · rw [hr, if_pos e3] at hK; exact hK
              · rw [if_neg e3] at hr
                refine py_ieq (fun e4 => ?_) (fun e4 => ?_)
                · rw [hr, if_pos e4] at hK; exact hK
                · rw [if_neg e4] at hr
                  refine py_ieq (fun e5 => ?_) (fun e5 => ?_)
                  · rw [hr, if_pos e5] at hK; exact hK
                  · rw [if_neg e5] at hr
                    refine py_ieq (fun e6 => ?_) (fun e6 => ?_)
                    · rw [hr, if_pos e6] at hK; exact hK
                    · rw [if_neg e6] at hr
                      refine py_ieq (fun e7 => ?_) (fun e7 => ?_)
                      · rw [hr, if_pos e7] at hK; exact hK
                      · rw [if_neg e7] at hr
                        refine py_ieq (fun e8 => ?_) (fun e8 => ?_)
                        · rw [hr, if_pos e8] at hK; exact hK
                        · rw [if_neg e8] at hr
                          refine py_ieq (fun e9 => ?_) (fun e9 => ?_)
                          · rw [hr, if_pos e9] at hK; exact hK
                          · rw [hr, if_neg e9] at hK; exact hK
        | succ d ih =>
          intro x hx
          obtain ⟨n9, hn9⟩ := ih (x + 1) (by omega)
          have hl := b3.2.1 x (by omega)
          have h58 := b3.1
          have g30 : py_st t 60 0 0 30 x = t 30 x := py_sn (by decide)
          have hcs : py_cnt (fun x => decide (0 < t 30 x)) (x + 1) = py_cnt (fun x => decide (0 < t 30 x)) x + (if decide (0 < t 30 x) = true then 1 else 0) := rfl
          refine ⟨n9 + 1, ?_⟩
          unfold lX5_told_32
          try simp only [py_O_ap, py_l0, py_l1, py_l2, py_l3, py_l4, py_l5, py_l6, py_l7, py_l8, py_l9, py_l12, py_l16, py_l32, py_l40, py_l100, py_l640, py_l1280, py_neg, py_add, py_sub, py_mul, py_stO]
          refine py_ile (fun c => absurd c (by omega)) (fun _ => py_and ?_)
          rw [py_nat (by omega)]
          simp only [Int.toNat_natCast]
          refine py_ile (fun c => ?_) (fun c => ?_)
          · rw [hcs, if_neg (by simp; omega)] at hn9
            rw [show ((py_cnt (fun x => decide (0 < t 30 x)) x : Nat) : Int) + 0 = ((py_cnt (fun x => decide (0 < t 30 x)) x + 0 : Nat) : Int) by omega]
            exact hn9
          · rw [hcs, if_pos (by simp; omega)] at hn9
            rw [show ((py_cnt (fun x => decide (0 < t 30 x)) x : Nat) : Int) + 1 = ((py_cnt (fun x => decide (0 < t 30 x)) x + 1 : Nat) : Int) by omega]
            exact hn9
      have hj : jX5_told_16 K (py_o w) (py_o 0) (py_O t) := by
        unfold jX5_told_16
        try simp only [py_O_ap, py_l0, py_l1, py_l2, py_l3, py_l4, py_l5, py_l6, py_l7, py_l8, py_l9, py_l12, py_l16, py_l32, py_l40, py_l100, py_l640, py_l1280, py_neg, py_add, py_sub, py_mul, py_stO]
        rw [if_pos (Int32.le_refl _)]
        exact key 640 0 rfl
      unfold eX5_told
      try simp only [py_O_ap, py_l0, py_l1, py_l2, py_l3, py_l4, py_l5, py_l6, py_l7, py_l8, py_l9, py_l12, py_l16, py_l32, py_l40, py_l100, py_l640, py_l1280, py_neg, py_add, py_sub, py_mul, py_stO]
      exact py_ilt (fun c => absurd c (by omega)) (fun _ => py_ile (fun _ => hj) (fun c => absurd c (by omega)))
  · refine ph_thr h (k := 0) (v := 1) (by omega) rfl (by decide) (fun K KX hK => ?_) (fun K hK => ?_)
    · unfold eX4_told
      try simp only [py_O_ap, py_l0, py_l1, py_l2, py_l3, py_l4, py_l5, py_l6, py_l7, py_l8, py_l9, py_l12, py_l16, py_l32, py_l40, py_l100, py_l640, py_l1280, py_neg, py_add, py_sub, py_mul, py_stO]
      exact pr_needWhat rw' (by omega) (fun a1 a2 => absurd ⟨a1, a2⟩ hw) (fun _ => hK)
    · have hj : jX5_told_11 K (py_o w) (py_O t) := by
        unfold jX5_told_11 jX5_told_16
        try simp only [py_O_ap, py_l0, py_l1, py_l2, py_l3, py_l4, py_l5, py_l6, py_l7, py_l8, py_l9, py_l12, py_l16, py_l32, py_l40, py_l100, py_l640, py_l1280, py_neg, py_add, py_sub, py_mul, py_stO]
        exact py_ile (fun c => absurd c (by omega)) (fun _ => hK)
      unfold eX5_told
      try simp only [py_O_ap, py_l0, py_l1, py_l2, py_l3, py_l4, py_l5, py_l6, py_l7, py_l8, py_l9, py_l12, py_l16, py_l32, py_l40, py_l100, py_l640, py_l1280, py_neg, py_add, py_sub, py_mul, py_stO]
      exact py_ilt (fun _ => hj) (fun a1 => py_ile (fun a2 => absurd ⟨a1, a2⟩ hw) (fun _ => hj))
end PT

/-! PURE: the calls on registers and things -/
section PC2
variable {s t : py_Z} {n : Nat} {m : Int}
theorem pr_needRegister {a : Int} {K : ty_S → Prop} {KX : Nat → ty_S → Prop} (ra : -2147483648 ≤ a ∧ a < 2147483648) (h1 : 0 ≤ a → a < 16 → K (py_O s)) (h0 : ¬ (0 ≤ a ∧ a < 16) → KX 0 (py_O s)) : eX4_needRegister (py_O s) (py_o a) K KX := by
  unfold eX4_needRegister
  try simp only [py_O_ap, py_l0, py_l1, py_l2, py_l3, py_l4, py_l5, py_l6, py_l7, py_l8, py_l9, py_l12, py_l16, py_l32, py_l40, py_l100, py_l640, py_l1280, py_neg, py_add, py_sub, py_mul, py_stO]
  exact py_ilt (fun c => h0 (by omega)) (fun c => py_ilt (fun c2 => h1 c c2) (fun c2 => h0 (by omega)))
theorem pm_noRegister {a : Int} {K : ty_S → Int32 → Prop} (ra : -2147483648 ≤ a ∧ a < 2147483648) (h1 : 0 ≤ a → a < 16 → K (py_O t) (py_o 0)) (h0 : ¬ (0 ≤ a ∧ a < 16) → K (py_O t) (py_o 1)) : eX5_noRegister (py_O t) (py_o a) K := by
  unfold eX5_noRegister
  try simp only [py_O_ap, py_l0, py_l1, py_l2, py_l3, py_l4, py_l5, py_l6, py_l7, py_l8, py_l9, py_l12, py_l16, py_l32, py_l40, py_l100, py_l640, py_l1280, py_neg, py_add, py_sub, py_mul, py_stO]
  exact py_ilt (fun c => h0 (by omega)) (fun c => py_ilt (fun c2 => h1 c c2) (fun c2 => h0 (by omega)))
/-- the label of what a pointer is to -/
theorem pr_labelE (h : ph_R s t n m) {y : Int} (hy : ph_PV t y) {v : py_Z} (hv : ∀ i, v 0 i = s 0 i) {K : ty_S → Int32 → Prop} (hK : K (py_O v) (py_o (if y < 0 then 0 else t 30 y.toNat))) : eX0_labelOf (py_O v) (py_o (ph_E t y)) K := by
  rcases hy with e1 | ⟨e1, e2⟩
  · subst e1
    rw [if_pos (by omega)] at hK
    have e3 : ph_E t (-1) = -1 := rfl
    rw [e3]
    exact pr_labelOf (fun c _ => absurd c (by omega)) (fun _ => hK)
  · rw [if_neg (by omega)] at hK
    obtain ⟨c, k, hc, hk, g1, g2, g3, g4, g5, g6⟩ := ph_live h.2.1 h.2.2.1 (x := y.toNat) (by omega) e2
    have e3 : ph_E t y = ((32 * c + ph_pos t c k : Nat) : Int) := by unfold ph_E; rw [if_neg (by omega)]; omega
    obtain ⟨w1, w2, w3, w4, w5⟩ := h.2.1.2.1 c k hc hk
    rw [g1] at w4
    rw [e3]
    refine pr_labelOf (fun _ _ => ?_) (fun c => absurd c (by omega))
    simp only [Int.toNat_natCast]
    rw [hv, w4]; exact hK
theorem pm_labelOf (h : ph_R s t n m) {y : Int} (hy : ph_PV t y) {v : py_Z} (hv : ∀ i, v 30 i = t 30 i) {K : ty_S → Int32 → Prop} (hK : K (py_O v) (py_o (if y < 0 then 0 else t 30 y.toNat))) : eX5_labelOf (py_O v) (py_o y) K := by
  unfold eX5_labelOf
  try simp only [py_O_ap, py_l0, py_l1, py_l2, py_l3, py_l4, py_l5, py_l6, py_l7, py_l8, py_l9, py_l12, py_l16, py_l32, py_l40, py_l100, py_l640, py_l1280, py_neg, py_add, py_sub, py_mul, py_stO]
  rcases hy with e1 | ⟨e1, e2⟩
  · subst e1
    exact py_ile (fun c => absurd c (by omega)) (fun _ => hK)
  · rw [if_neg (by omega)] at hK
    refine py_ile (fun _ => py_and ?_) (fun c => absurd c (by omega))
    rw [py_nat (by omega)]
    rw [hv]; exact hK
/-- a register is set -/
theorem ph_R.setReg (h : ph_R s t n m) {r : Nat} {y : Int} (hr : r < 16) (hy : ph_PV t y) : ph_R (py_st s 7 r (ph_E t y)) (py_st t 43 r y) n m := by
  obtain ⟨b1, b2, b3, b4, b5, b6, b7, b8, b9, b10⟩ := h
  have e : ∀ g i, g ≠ 43 → py_st t 43 r y g i = t g i := fun g i h1 => py_sn h1
  have es : ∀ g i, g ≠ 7 → py_st s 7 r (ph_E t y) g i = s g i := fun g i h1 => py_sn h1
  have hE : ph_E (py_st t 43 r y) = ph_E t := ph_E_congr (fun x => e 31 x (by decide)) (fun x => e 32 x (by decide))
  refine ⟨b1.congr (fun i => es 5 i (by decide)) (fun i => es 6 i (by decide)) (es 13 0 (by decide)) (es 14 0 (by decide)) (e 50 0 (by decide)) (e 57 0 (by decide)) (fun i => e 40 i (by decide)) (fun i => e 41 i (by decide)) (fun i => e 42 i (by decide)), ?_, ?_, fun q hq => ?_, ?_, ?_, ?_, ?_, ?_, ?_⟩
  · rw [hE]; exact b2.congr (fun g i hg => es g i (by omega)) (fun c _ hz => by rwa [es 6 c (by decide)] at hz) (fun g i _ _ _ _ => e g i (by omega))
  · have ex : ∀ c k, ph_x (py_st t 43 r y) c k = ph_x t c k := fun c k => by unfold ph_x; rw [e 39 _ (by decide)]
    have ep : ∀ c k, ph_pos (py_st t 43 r y) c k = ph_pos t c k := fun c k => ph_pos_congr k (fun m _ => ⟨ex c m, by unfold ph_sz; rw [e 33 _ (by decide), e 34 _ (by decide)]⟩)
    unfold ph_MH at b3 ⊢
    simp only [ph_PV, e 58 _ (show 58 ≠ 43 by decide), e 30 _ (show 30 ≠ 43 by decide), e 31 _ (show 31 ≠ 43 by decide), e 32 _ (show 32 ≠ 43 by decide), e 33 _ (show 33 ≠ 43 by decide), e 35 _ (show 35 ≠ 43 by decide), e 38 _ (show 38 ≠ 43 by decide), ex, ep] at b3 ⊢
    refine ⟨b3.1, b3.2.1, b3.2.2.1, b3.2.2.2.1, fun q hq => ?_, b3.2.2.2.2.2⟩
    by_cases e1 : q = r
    · subst e1; rw [py_se]; exact hy
    · rw [py_sj e1]; exact b3.2.2.2.2.1 q hq
  · rw [hE]
    by_cases e1 : q = r
    · subst e1; rw [py_se, py_se]
    · rw [py_sj e1, py_sj e1]; exact b4 q hq
  · rw [es 20 0 (by decide), e 59 0 (by decide)]; exact b5
  · rw [es 15 0 (by decide), es 16 0 (by decide), es 17 0 (by decide), es 18 0 (by decide), es 19 0 (by decide), e 52 0 (by decide), e 53 0 (by decide), e 54 0 (by decide), e 55 0 (by decide), e 56 0 (by decide)]; exact b6
  · rw [es 23 0 (by decide), e 51 0 (by decide)]; exact b7
  · rw [es 24 0 (by decide), e 58 0 (by decide)]; exact b8
  · rw [e 57 0 (by decide)]; exact b9
  · rw [es 26 0 (by decide)]; exact ⟨b10.1, b10.2.1, fun p hp => by rw [es 10 p (by decide)]; exact b10.2.2 p hp⟩
theorem ph_R.pv (h : ph_R s t n m) {r : Nat} (hr : r < 16) : ph_PV t (t 43 r) ∧ s 7 r = ph_E t (t 43 r) := ⟨h.2.2.1.2.2.2.2.1 r hr, h.2.2.2.1 r hr⟩
theorem ph_PV.t60 {y v : Int} (h : ph_PV t y) : ph_PV (py_st t 60 0 v) y := by
  unfold ph_PV at h ⊢
  rw [py_sn (by decide)]; exact h
theorem ph_callCopy (h : ph_R s t n m) {a b : Int} (ra : -2147483648 ≤ a ∧ a < 2147483648) (rb : -2147483648 ≤ b ∧ b < 2147483648) : ph_Out (fun K KX => eX4_copy (py_O s) (py_o a) (py_o b) K KX) (fun K => eX5_copy (py_O t) (py_o a) (py_o b) K) py_code0 (n + 1) (m + 101) := by
  by_cases hr : (0 ≤ a ∧ a < 16) ∧ 0 ≤ b ∧ b < 16
  · obtain ⟨q1, q2⟩ := h.pv (r := b.toNat) (by omega)
    have h2 := h.t60 0
    have hE : ph_E (py_st t 60 0 0) = ph_E t := ph_E_congr (fun x => py_sn (by decide)) (fun x => py_sn (by decide))
    have hR := h2.setReg (r := a.toNat) (y := t 43 b.toNat) (by omega) q1.t60
    rw [hE] at hR
    refine ⟨_, _, if t 43 b.toNat < 0 then 0 else t 30 (t 43 b.toNat).toNat, hR.mono (by omega) (by omega), fun K hK => ?_, Or.inl ⟨by rw [py_sn (by decide), py_se], fun K KX hK => ?_⟩⟩
    · have hj : jX5_copy_20 K (py_o a) (py_o b) (py_o 0) (py_O t) := by
        unfold jX5_copy_20
        try simp only [py_O_ap, py_l0, py_l1, py_l2, py_l3, py_l4, py_l5, py_l6, py_l7, py_l8, py_l9, py_l12, py_l16, py_l32, py_l40, py_l100, py_l640, py_l1280, py_neg, py_add, py_sub, py_mul, py_stO]
        rw [if_pos (Int32.le_refl _)]
        refine py_and (py_and (py_and ?_))
        rw [py_nat (by omega), py_nat (by omega)]
        try simp only [py_O_ap, py_l0, py_l1, py_l2, py_l3, py_l4, py_l5, py_l6, py_l7, py_l8, py_l9, py_l12, py_l16, py_l32, py_l40, py_l100, py_l640, py_l1280, py_neg, py_add, py_sub, py_mul, py_stO]
        rw [py_se]
        exact pm_labelOf h q1 (fun i => by rw [py_sn (by decide), py_sn (by decide)]) hK
      unfold eX5_copy
      try simp only [py_O_ap, py_l0, py_l1, py_l2, py_l3, py_l4, py_l5, py_l6, py_l7, py_l8, py_l9, py_l12, py_l16, py_l32, py_l40, py_l100, py_l640, py_l1280, py_neg, py_add, py_sub, py_mul, py_stO]
      refine pm_noRegister ra (fun _ _ => ?_) (fun c => absurd hr.1 c)
      refine py_ieq (fun _ => ?_) (fun c => absurd rfl c)
      refine pm_noRegister rb (fun _ _ => ?_) (fun c => absurd hr.2 c)
      exact py_ieq (fun _ => hj) (fun c => absurd rfl c)
    · unfold eX4_copy
      try simp only [py_O_ap, py_l0, py_l1, py_l2, py_l3, py_l4, py_l5, py_l6, py_l7, py_l8, py_l9, py_l12, py_l16, py_l32, py_l40, py_l100, py_l640, py_l1280, py_neg, py_add, py_sub, py_mul, py_stO]
      refine pr_needRegister ra (fun _ _ => ?_) (fun c => absurd hr.1 c)
      refine pr_needRegister rb (fun _ _ => ?_) (fun c => absurd hr.2 c)
      refine py_and (py_and (py_and ?_))
      rw [py_nat (by omega), py_nat (by omega)]
      try simp only [py_O_ap, py_l0, py_l1, py_l2, py_l3, py_l4, py_l5, py_l6, py_l7, py_l8, py_l9, py_l12, py_l16, py_l32, py_l40, py_l100, py_l640, py_l1280, py_neg, py_add, py_sub, py_mul, py_stO]
      rw [py_se, q2]
      exact pr_labelE h q1 (fun i => py_sn (by decide)) hK
  · have hj : ∀ K : ty_S → Int32 → Prop, K (py_O (py_st t 60 0 1)) (py_o 0) → jX5_copy_15 K (py_o a) (py_o b) (py_O t) := fun K hK => by
      unfold jX5_copy_15 jX5_copy_20
      try simp only [py_O_ap, py_l0, py_l1, py_l2, py_l3, py_l4, py_l5, py_l6, py_l7, py_l8, py_l9, py_l12, py_l16, py_l32, py_l40, py_l100, py_l640, py_l1280, py_neg, py_add, py_sub, py_mul, py_stO]
      exact py_ile (fun c => absurd c (by omega)) (fun _ => hK)
    refine ⟨s, py_st t 60 0 1, 0, (h.t60 1).mono (by omega) (by omega), fun K hK => ?_, Or.inr ⟨0, by omega, py_se, by decide, fun K KX hK => ?_⟩⟩
    · unfold eX5_copy
      try simp only [py_O_ap, py_l0, py_l1, py_l2, py_l3, py_l4, py_l5, py_l6, py_l7, py_l8, py_l9, py_l12, py_l16, py_l32, py_l40, py_l100, py_l640, py_l1280, py_neg, py_add, py_sub, py_mul, py_stO]
      refine pm_noRegister ra (fun a1 a2 => ?_) (fun _ => py_ieq (fun c => absurd c (by omega)) (fun _ => hj K hK))
      refine py_ieq (fun _ => ?_) (fun c => absurd rfl c)
      refine pm_noRegister rb (fun b1 b2 => absurd ⟨⟨a1, a2⟩, b1, b2⟩ hr) (fun _ => py_ieq (fun c => absurd c (by omega)) (fun _ => hj K hK))
    · unfold eX4_copy
      try simp only [py_O_ap, py_l0, py_l1, py_l2, py_l3, py_l4, py_l5, py_l6, py_l7, py_l8, py_l9, py_l12, py_l16, py_l32, py_l40, py_l100, py_l640, py_l1280, py_neg, py_add, py_sub, py_mul, py_stO]
      refine pr_needRegister ra (fun a1 a2 => ?_) (fun _ => hK)
      exact pr_needRegister rb (fun b1 b2 => absurd ⟨⟨a1, a2⟩, b1, b2⟩ hr) (fun _ => hK)
theorem ph_callDrop (h : ph_R s t n m) {a : Int} (ra : -2147483648 ≤ a ∧ a < 2147483648) : ph_Out (fun K KX => eX4_drop (py_O s) (py_o a) K KX) (fun K => eX5_drop (py_O t) (py_o a) K) py_code0 (n + 1) (m + 101) := by
  by_cases hr : 0 ≤ a ∧ a < 16
  · obtain ⟨q1, q2⟩ := h.pv (r := a.toNat) (by omega)
    have h2 := h.t60 0
    have hR := h2.setReg (r := a.toNat) (y := -1) (by omega) (Or.inl rfl)
    refine ⟨_, _, if t 43 a.toNat < 0 then 0 else t 30 (t 43 a.toNat).toNat, hR.mono (by omega) (by omega), fun K hK => ?_, Or.inl ⟨by rw [py_sn (by decide), py_se], fun K KX hK => ?_⟩⟩
    · have hj : jX5_drop_13 K (py_o a) (py_o 0) (py_O t) := by
        unfold jX5_drop_13
        try simp only [py_O_ap, py_l0, py_l1, py_l2, py_l3, py_l4, py_l5, py_l6, py_l7, py_l8, py_l9, py_l12, py_l16, py_l32, py_l40, py_l100, py_l640, py_l1280, py_neg, py_add, py_sub, py_mul, py_stO]
        rw [if_pos (Int32.le_refl _)]
        refine py_and ?_
        rw [py_nat (by omega)]
        refine pm_labelOf h q1 (fun i => by rw [py_sn (by decide)]) (py_and ?_)
        try simp only [py_O_ap, py_l0, py_l1, py_l2, py_l3, py_l4, py_l5, py_l6, py_l7, py_l8, py_l9, py_l12, py_l16, py_l32, py_l40, py_l100, py_l640, py_l1280, py_neg, py_add, py_sub, py_mul, py_stO]
        exact hK
      unfold eX5_drop
      try simp only [py_O_ap, py_l0, py_l1, py_l2, py_l3, py_l4, py_l5, py_l6, py_l7, py_l8, py_l9, py_l12, py_l16, py_l32, py_l40, py_l100, py_l640, py_l1280, py_neg, py_add, py_sub, py_mul, py_stO]
      refine pm_noRegister ra (fun _ _ => ?_) (fun c => absurd hr c)
      exact py_ieq (fun _ => hj) (fun c => absurd rfl c)
    · unfold eX4_drop
      try simp only [py_O_ap, py_l0, py_l1, py_l2, py_l3, py_l4, py_l5, py_l6, py_l7, py_l8, py_l9, py_l12, py_l16, py_l32, py_l40, py_l100, py_l640, py_l1280, py_neg, py_add, py_sub, py_mul, py_stO]
      refine pr_needRegister ra (fun _ _ => py_and ?_) (fun c => absurd hr c)
      rw [py_nat (by omega)]
      try simp only [py_O_ap, py_l0, py_l1, py_l2, py_l3, py_l4, py_l5, py_l6, py_l7, py_l8, py_l9, py_l12, py_l16, py_l32, py_l40, py_l100, py_l640, py_l1280, py_neg, py_add, py_sub, py_mul, py_stO]
      rw [q2]
      refine pr_labelE h q1 (fun i => rfl) (py_and ?_)
      try simp only [py_O_ap, py_l0, py_l1, py_l2, py_l3, py_l4, py_l5, py_l6, py_l7, py_l8, py_l9, py_l12, py_l16, py_l32, py_l40, py_l100, py_l640, py_l1280, py_neg, py_add, py_sub, py_mul, py_stO]
      exact hK
  · have hj : ∀ K : ty_S → Int32 → Prop, K (py_O (py_st t 60 0 1)) (py_o 0) → jX5_drop_13 K (py_o a) (py_o 1) (py_O t) := fun K hK => by
      unfold jX5_drop_13
      try simp only [py_O_ap, py_l0, py_l1, py_l2, py_l3, py_l4, py_l5, py_l6, py_l7, py_l8, py_l9, py_l12, py_l16, py_l32, py_l40, py_l100, py_l640, py_l1280, py_neg, py_add, py_sub, py_mul, py_stO]
      exact py_ile (fun c => absurd c (by omega)) (fun _ => hK)
    refine ⟨s, py_st t 60 0 1, 0, (h.t60 1).mono (by omega) (by omega), fun K hK => ?_, Or.inr ⟨0, by omega, py_se, by decide, fun K KX hK => ?_⟩⟩
    · unfold eX5_drop
      try simp only [py_O_ap, py_l0, py_l1, py_l2, py_l3, py_l4, py_l5, py_l6, py_l7, py_l8, py_l9, py_l12, py_l16, py_l32, py_l40, py_l100, py_l640, py_l1280, py_neg, py_add, py_sub, py_mul, py_stO]
      exact pm_noRegister ra (fun a1 a2 => absurd ⟨a1, a2⟩ hr) (fun _ => py_ieq (fun c => absurd c (by omega)) (fun _ => hj K hK))
    · unfold eX4_drop
      try simp only [py_O_ap, py_l0, py_l1, py_l2, py_l3, py_l4, py_l5, py_l6, py_l7, py_l8, py_l9, py_l12, py_l16, py_l32, py_l40, py_l100, py_l640, py_l1280, py_neg, py_add, py_sub, py_mul, py_stO]
      exact pr_needRegister ra (fun a1 a2 => absurd ⟨a1, a2⟩ hr) (fun _ => hK)
/-- what a register's thing is, in its car -/
theorem ph_R.thing (h : ph_R s t n m) {y : Int} (hy : ph_PV t y) (h0 : 0 ≤ y) : ∃ c k : Nat, c < 40 ∧ (k : Int) < t 38 c ∧ ph_x t c k = y.toNat ∧ y.toNat < 640 ∧ 0 < t 30 y.toNat ∧ t 31 y.toNat = c ∧ t 32 y.toNat = ph_pos t c k ∧ ph_E t y = ((32 * c + ph_pos t c k : Nat) : Int) ∧ (0 ≤ t 33 y.toNat ∧ t 33 y.toNat ≤ 12) ∧ (0 ≤ t 34 y.toNat ∧ t 34 y.toNat ≤ 12) ∧ (32 * (c : Int) + ph_pos t c k + (2 + t 33 y.toNat + t 34 y.toNat) ≤ 32 * c + 32) ∧ s 0 (32 * c + ph_pos t c k + 1) = t 33 y.toNat + 16 * t 34 y.toNat ∧
    (∀ i : Nat, (i : Int) < t 33 y.toNat → s 0 (32 * c + ph_pos t c k + 2 + i) = ph_E t (t 35 (12 * y.toNat + i))) ∧ (∀ i : Nat, (i : Int) < t 34 y.toNat → s 0 (32 * c + ph_pos t c k + 2 + (t 33 y.toNat).toNat + i) = t 36 (12 * y.toNat + i)) ∧ s 0 (32 * c + ph_pos t c k) = t 30 y.toNat := by
  obtain ⟨e1, e2⟩ := hy.resolve_left (by omega)
  obtain ⟨c, k, hc, hk, g1, g2, g3, g4, g5, g6, g7⟩ := ph_live h.2.1 h.2.2.1 (x := y.toNat) (by omega) e2
  obtain ⟨w1, w2, w3, w4, w5, w6, w7⟩ := h.2.1.2.1 c k hc hk
  obtain ⟨f1, f2, f3, f4⟩ := h.2.1.fit hc hk
  rw [g1] at w2 w3 w4 w5 w6 w7 f1 f4
  refine ⟨c, k, hc, hk, g1, by omega, e2, g2, g3, ?_, w2, w3, by omega, w5, fun i hi => (w6 i hi).1, w7, w4⟩
  unfold ph_E; rw [if_neg (by omega)]; omega
theorem pr_heldThing (h : ph_R s t n m) {a : Int} {K : ty_S → Int32 → Prop} {KX : Nat → ty_S → Prop} (ra : -2147483648 ≤ a ∧ a < 2147483648) (h1 : 0 ≤ a → a < 16 → 0 ≤ t 43 a.toNat → K (py_O s) (py_o (ph_E t (t 43 a.toNat)))) (h2 : 0 ≤ a → a < 16 → t 43 a.toNat < 0 → KX 1 (py_O s)) (h0 : ¬ (0 ≤ a ∧ a < 16) → KX 0 (py_O s)) : eX4_heldThing (py_O s) (py_o a) K KX := by
  unfold eX4_heldThing
  try simp only [py_O_ap, py_l0, py_l1, py_l2, py_l3, py_l4, py_l5, py_l6, py_l7, py_l8, py_l9, py_l12, py_l16, py_l32, py_l40, py_l100, py_l640, py_l1280, py_neg, py_add, py_sub, py_mul, py_stO]
  refine pr_needRegister ra (fun a1 a2 => py_and ?_) h0
  rw [py_nat (by omega)]
  obtain ⟨q1, q2⟩ := h.pv (r := a.toNat) (by omega)
  simp only [py_O_ap, q2]
  by_cases e : 0 ≤ t 43 a.toNat
  · obtain ⟨c, k, hc, hk, g1, g2, g3, g4, g5, g6, g7⟩ := h.thing q1 e
    exact py_ieq (fun c => absurd c (by omega)) (fun _ => h1 a1 a2 e)
  · have : ph_E t (t 43 a.toNat) = -1 := by unfold ph_E; rw [if_pos (by omega)]
    rw [this]
    exact py_ieq (fun _ => h2 a1 a2 (by omega)) (fun c => absurd rfl c)
theorem pr_placeOfReference (h : ph_R s t n m) {a i : Int} {K : ty_S → Int32 → Prop} {KX : Nat → ty_S → Prop} (ra : -2147483648 ≤ a ∧ a < 2147483648) (ri : -2147483648 ≤ i ∧ i < 2147483648) (h1 : 0 ≤ a → a < 16 → 0 ≤ t 43 a.toNat → 0 ≤ i → i < t 33 (t 43 a.toNat).toNat → K (py_O s) (py_o (ph_E t (t 43 a.toNat) + 2 + i))) (h3 : 0 ≤ a → a < 16 → 0 ≤ t 43 a.toNat → ¬ (0 ≤ i ∧ i < t 33 (t 43 a.toNat).toNat) → KX 2 (py_O s)) (h2 : 0 ≤ a → a < 16 → t 43 a.toNat < 0 → KX 1 (py_O s)) (h0 : ¬ (0 ≤ a ∧ a < 16) → KX 0 (py_O s)) : eX4_placeOfReference (py_O s) (py_o a) (py_o i) K KX := by
  unfold eX4_placeOfReference
  try simp only [py_O_ap, py_l0, py_l1, py_l2, py_l3, py_l4, py_l5, py_l6, py_l7, py_l8, py_l9, py_l12, py_l16, py_l32, py_l40, py_l100, py_l640, py_l1280, py_neg, py_add, py_sub, py_mul, py_stO]
  refine pr_heldThing h ra (fun a1 a2 a3 => ?_) h2 h0
  obtain ⟨q1, q2⟩ := h.pv (r := a.toNat) (by omega)
  obtain ⟨c, k, hc, hk, g1, g2, g3, g4, g5, g6, g7, g8, g9, g10⟩ := h.thing q1 a3
  refine py_ilt (fun c => h3 a1 a2 a3 (by omega)) (fun c1 => ?_)
  refine pr_references (r := t 33 (t 43 a.toNat).toNat) (n := t 34 (t 43 a.toNat).toNat) (by omega) (by omega) ?_ (by omega) (by omega) (by omega) (by omega) ?_
  · rw [g6, show (((32 * c + ph_pos t c k : Nat) : Int) + 1).toNat = 32 * c + ph_pos t c k + 1 by omega]; exact g10.1
  · refine py_ilt (fun c2 => ?_) (fun c2 => h3 a1 a2 a3 (by omega))
    try simp only [py_O_ap, py_l0, py_l1, py_l2, py_l3, py_l4, py_l5, py_l6, py_l7, py_l8, py_l9, py_l12, py_l16, py_l32, py_l40, py_l100, py_l640, py_l1280, py_neg, py_add, py_sub, py_mul, py_stO]
    exact h1 a1 a2 a3 c1 c2
theorem pr_placeOfNumber (h : ph_R s t n m) {a i : Int} {K : ty_S → Int32 → Prop} {KX : Nat → ty_S → Prop} (ra : -2147483648 ≤ a ∧ a < 2147483648) (ri : -2147483648 ≤ i ∧ i < 2147483648) (h1 : 0 ≤ a → a < 16 → 0 ≤ t 43 a.toNat → 0 ≤ i → i < t 34 (t 43 a.toNat).toNat → K (py_O s) (py_o (ph_E t (t 43 a.toNat) + 2 + t 33 (t 43 a.toNat).toNat + i))) (h3 : 0 ≤ a → a < 16 → 0 ≤ t 43 a.toNat → ¬ (0 ≤ i ∧ i < t 34 (t 43 a.toNat).toNat) → KX 2 (py_O s)) (h2 : 0 ≤ a → a < 16 → t 43 a.toNat < 0 → KX 1 (py_O s)) (h0 : ¬ (0 ≤ a ∧ a < 16) → KX 0 (py_O s)) : eX4_placeOfNumber (py_O s) (py_o a) (py_o i) K KX := by
  unfold eX4_placeOfNumber
  try simp only [py_O_ap, py_l0, py_l1, py_l2, py_l3, py_l4, py_l5, py_l6, py_l7, py_l8, py_l9, py_l12, py_l16, py_l32, py_l40, py_l100, py_l640, py_l1280, py_neg, py_add, py_sub, py_mul, py_stO]
  refine pr_heldThing h ra (fun a1 a2 a3 => ?_) h2 h0
  obtain ⟨q1, q2⟩ := h.pv (r := a.toNat) (by omega)
  obtain ⟨c, k, hc, hk, g1, g2, g3, g4, g5, g6, g7, g8, g9, g10⟩ := h.thing q1 a3
  have hw : s 0 (ph_E t (t 43 a.toNat) + 1).toNat = t 33 (t 43 a.toNat).toNat + 16 * t 34 (t 43 a.toNat).toNat := by
    rw [g6, show (((32 * c + ph_pos t c k : Nat) : Int) + 1).toNat = 32 * c + ph_pos t c k + 1 by omega]; exact g10.1
  refine py_ilt (fun c => h3 a1 a2 a3 (by omega)) (fun c1 => ?_)
  refine pr_numbers (r := t 33 (t 43 a.toNat).toNat) (n := t 34 (t 43 a.toNat).toNat) (by omega) (by omega) hw (by omega) (by omega) (by omega) (by omega) ?_
  refine py_ilt (fun c2 => ?_) (fun c2 => h3 a1 a2 a3 (by omega))
  refine pr_references (r := t 33 (t 43 a.toNat).toNat) (n := t 34 (t 43 a.toNat).toNat) (by omega) (by omega) hw (by omega) (by omega) (by omega) (by omega) ?_
  try simp only [py_O_ap, py_l0, py_l1, py_l2, py_l3, py_l4, py_l5, py_l6, py_l7, py_l8, py_l9, py_l12, py_l16, py_l32, py_l40, py_l100, py_l640, py_l1280, py_neg, py_add, py_sub, py_mul, py_stO]
  exact h1 a1 a2 a3 c1 c2
end PC2

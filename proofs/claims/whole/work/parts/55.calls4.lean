/-! PURE: set, get, label, put, number, thing, word -/
theorem py_stc {t : py_Z} {f g i j : Nat} {v w : Int} (h : f ≠ g) : py_st (py_st t f i v) g j w = py_st (py_st t g j w) f i v := by
  funext a b
  simp only [py_st]
  grind
section PC4
variable {s t : py_Z} {n : Nat} {m : Int}
def py_code3 (k : Nat) : Int := if k = 0 then 1 else if k = 1 then 2 else 3
theorem ph_thr (h : ph_R s t n m) {v : Int} {k : Nat} {code : Nat → Int} (hk : k < 3) (hv : v = code k) (hv2 : 1 ≤ code k ∧ code k ≤ 3) {P : (ty_S → Int32 → Prop) → (Nat → ty_S → Prop) → Prop} {M : (ty_S → Int32 → Prop) → Prop} (hP : ∀ (K : ty_S → Int32 → Prop) (KX : Nat → ty_S → Prop), KX k (py_O s) → P K KX) (hM : ∀ K : ty_S → Int32 → Prop, K (py_O (py_st t 60 0 v)) (py_o 0) → M K) : ph_Out P M code (n + 1) (m + 101) :=
  ⟨s, py_st t 60 0 v, 0, (h.t60 v).mono (by omega) (by omega), hM, Or.inr ⟨k, hk, by rw [py_se]; exact hv, hv2, hP⟩⟩
theorem ph_ret (h : ph_R s t n m) {r : Int} {code : Nat → Int} {P : (ty_S → Int32 → Prop) → (Nat → ty_S → Prop) → Prop} {M : (ty_S → Int32 → Prop) → Prop} (hP : ∀ (K : ty_S → Int32 → Prop) (KX : Nat → ty_S → Prop), K (py_O s) (py_o r) → P K KX) (hM : ∀ K : ty_S → Int32 → Prop, K (py_O (py_st t 60 0 0)) (py_o r) → M K) : ph_Out P M code (n + 1) (m + 101) :=
  ⟨s, py_st t 60 0 0, r, (h.t60 0).mono (by omega) (by omega), hM, Or.inl ⟨py_se, hP⟩⟩
/-- a reference of a register's thing, on both sides -/
theorem ph_R.refAt (h : ph_R s t n m) {a i : Int} (ha : 0 ≤ a ∧ a < 16) (h43 : 0 ≤ t 43 a.toNat) (hi : 0 ≤ i ∧ i < t 33 (t 43 a.toNat).toNat) : t 43 a.toNat < 640 ∧ t 33 (t 43 a.toNat).toNat ≤ 12 ∧ (12 * t 43 a.toNat + i).toNat = 12 * (t 43 a.toNat).toNat + i.toNat ∧ ph_PV t (t 35 (12 * (t 43 a.toNat).toNat + i.toNat)) ∧
    (0 ≤ ph_E t (t 43 a.toNat) + 2 + i ∧ ph_E t (t 43 a.toNat) + 2 + i < 1280) ∧ s 0 (ph_E t (t 43 a.toNat) + 2 + i).toNat = ph_E t (t 35 (12 * (t 43 a.toNat).toNat + i.toNat)) ∧ ∃ c k : Nat, c < 40 ∧ (k : Int) < t 38 c ∧ ph_x t c k = (t 43 a.toNat).toNat ∧ (ph_E t (t 43 a.toNat) + 2 + i).toNat = 32 * c + ph_pos t c k + 2 + i.toNat := by
  obtain ⟨q1, q2⟩ := h.pv (r := a.toNat) (by omega)
  obtain ⟨c, k, hc, hk, g1, g2, g3, g4, g5, g6, g7, g8, g9, g10, g11, g12, g13⟩ := h.thing q1 h43
  have e1 : (ph_E t (t 43 a.toNat) + 2 + i).toNat = 32 * c + ph_pos t c k + 2 + i.toNat := by omega
  refine ⟨by omega, g7.2, by omega, h.2.2.1.2.2.2.2.2 _ g2 g3 i.toNat (by omega), by omega, ?_, c, k, hc, hk, g1, e1⟩
  rw [e1, g11 i.toNat (by omega)]
theorem ph_callSet (h : ph_R s t n m) {a i b : Int} (ra : -2147483648 ≤ a ∧ a < 2147483648) (ri : -2147483648 ≤ i ∧ i < 2147483648) (rb : -2147483648 ≤ b ∧ b < 2147483648) : ph_Out (fun K KX => eX4_set (py_O s) (py_o a) (py_o i) (py_o b) K KX) (fun K => eX5_set (py_O t) (py_o a) (py_o i) (py_o b) K) py_code3 (n + 1) (m + 101) := by
  have hthr : ∀ (v : Int), 0 < v → v < 10 → ∀ K : ty_S → Int32 → Prop, K (py_O (py_st t 60 0 v)) (py_o 0) → jX5_set_56 K (py_o a) (py_o i) (py_o b) (py_o v) (py_O t) := fun v h1 h2 K hK => by
    unfold jX5_set_56
    try simp only [py_O_ap, py_l0, py_l1, py_l2, py_l3, py_l4, py_l5, py_l6, py_l7, py_l8, py_l9, py_l12, py_l16, py_l32, py_l40, py_l100, py_l640, py_l1280, py_neg, py_add, py_sub, py_mul, py_stO]
    exact py_ile (fun c => absurd c (by omega)) (fun _ => hK)
  by_cases hab : (0 ≤ a ∧ a < 16) ∧ 0 ≤ b ∧ b < 16
  · obtain ⟨q1, q2⟩ := h.pv (r := a.toNat) (by omega)
    obtain ⟨qb1, qb2⟩ := h.pv (r := b.toNat) (by omega)
    have hM0 : ∀ K : ty_S → Int32 → Prop, (if py_o 0 ≤ py_o (t 43 a.toNat) then (if py_o i < py_o 0 then jX5_set_51 K (py_o a) (py_o i) (py_o b) (py_O t) else (vp_in (py_o a) 16 ∧ (vp_in (py_o (t 43 a.toNat)) 640 ∧ (if py_o i < py_o (t 33 (py_o (t 43 a.toNat)).toNatClampNeg) then jX5_set_56 K (py_o a) (py_o i) (py_o b) (py_o 0) (py_O t) else jX5_set_51 K (py_o a) (py_o i) (py_o b) (py_O t))))) else jX5_set_56 K (py_o a) (py_o i) (py_o b) (py_o 2) (py_O t)) → eX5_set (py_O t) (py_o a) (py_o i) (py_o b) K := fun K hK => by
      unfold eX5_set
      try simp only [py_O_ap, py_l0, py_l1, py_l2, py_l3, py_l4, py_l5, py_l6, py_l7, py_l8, py_l9, py_l12, py_l16, py_l32, py_l40, py_l100, py_l640, py_l1280, py_neg, py_add, py_sub, py_mul, py_stO]
      refine pm_noRegister ra (fun _ _ => ?_) (fun c => absurd hab.1 c)
      refine py_ieq (fun _ => ?_) (fun c => absurd rfl c)
      refine pm_noRegister rb (fun _ _ => ?_) (fun c => absurd hab.2 c)
      refine py_ieq (fun _ => py_and ?_) (fun c => absurd rfl c)
      rw [py_nat (by omega)]
      exact hK
    by_cases h43 : 0 ≤ t 43 a.toNat
    · obtain ⟨c0, k0, hc0, hk0, g1, g2, g3, g4, g5, g6, g7, g8, g9⟩ := h.thing q1 h43
      by_cases hi : 0 ≤ i ∧ i < t 33 (t 43 a.toNat).toNat
      · obtain ⟨r1, r2, r3, r4, r5, r6, c, k, hc, hk, r7, r8⟩ := h.refAt hab.1 h43 hi
        have hR := (h.setWord (g := 35) (i := i.toNat) (y := t 43 b.toNat) (v := ph_E t (t 43 b.toNat)) hc hk (Or.inl ⟨rfl, by rw [r7]; omega, qb1, rfl⟩)).t60 0
        rw [if_pos rfl, r7, ← r8] at hR
        refine ⟨_, _, if t 35 (12 * (t 43 a.toNat).toNat + i.toNat) < 0 then 0 else t 30 (t 35 (12 * (t 43 a.toNat).toNat + i.toNat)).toNat, hR.mono (by omega) (by omega), fun K hK => hM0 K ?_, Or.inl ⟨py_se, fun K KX hK => ?_⟩⟩
        · refine py_ile (fun _ => ?_) (fun c => absurd c (by omega))
          refine py_ilt (fun c => absurd c (by omega)) (fun _ => py_and (py_and ?_))
          rw [py_nat (by omega)]
          refine py_ilt (fun _ => ?_) (fun c => absurd c (by omega))
          unfold jX5_set_56
          try simp only [py_O_ap, py_l0, py_l1, py_l2, py_l3, py_l4, py_l5, py_l6, py_l7, py_l8, py_l9, py_l12, py_l16, py_l32, py_l40, py_l100, py_l640, py_l1280, py_neg, py_add, py_sub, py_mul, py_stO]
          rw [if_pos (Int32.le_refl _)]
          refine py_and ?_
          rw [py_nat (by omega)]
          try simp only [py_O_ap, py_l0, py_l1, py_l2, py_l3, py_l4, py_l5, py_l6, py_l7, py_l8, py_l9, py_l12, py_l16, py_l32, py_l40, py_l100, py_l640, py_l1280, py_neg, py_add, py_sub, py_mul, py_stO]
          refine py_and ?_
          rw [py_nat (by omega), r3]
          refine pm_labelOf h r4 (fun i => py_sn (by decide)) (py_and ?_)
          rw [py_nat (by omega)]
          try simp only [py_O_ap, py_l0, py_l1, py_l2, py_l3, py_l4, py_l5, py_l6, py_l7, py_l8, py_l9, py_l12, py_l16, py_l32, py_l40, py_l100, py_l640, py_l1280, py_neg, py_add, py_sub, py_mul, py_stO]
          refine py_and ?_
          rw [py_sn (by decide), py_stc (by decide)]
          exact hK
        · unfold eX4_set
          try simp only [py_O_ap, py_l0, py_l1, py_l2, py_l3, py_l4, py_l5, py_l6, py_l7, py_l8, py_l9, py_l12, py_l16, py_l32, py_l40, py_l100, py_l640, py_l1280, py_neg, py_add, py_sub, py_mul, py_stO]
          refine pr_needRegister rb (fun _ _ => ?_) (fun c => absurd hab.2 c)
          refine pr_placeOfReference h ra ri (fun _ _ _ _ _ => ?_) (fun _ _ _ c => absurd hi c) (fun _ _ c => absurd c (by omega)) (fun c => absurd hab.1 c)
          refine pr_at (fun _ _ => ?_) (fun c => absurd c (by omega))
          rw [r6]
          refine pr_labelE h r4 (fun i => rfl) (py_and ?_)
          rw [py_nat (by omega)]
          try simp only [py_O_ap, py_l0, py_l1, py_l2, py_l3, py_l4, py_l5, py_l6, py_l7, py_l8, py_l9, py_l12, py_l16, py_l32, py_l40, py_l100, py_l640, py_l1280, py_neg, py_add, py_sub, py_mul, py_stO]
          rw [qb2]
          exact pr_write (fun _ _ => hK) (fun c => absurd c (by omega))
      · refine ph_thr h (k := 2) (v := 3) (by omega) rfl (by decide) (fun K KX hK => ?_) (fun K hK => hM0 K ?_)
        · unfold eX4_set
          try simp only [py_O_ap, py_l0, py_l1, py_l2, py_l3, py_l4, py_l5, py_l6, py_l7, py_l8, py_l9, py_l12, py_l16, py_l32, py_l40, py_l100, py_l640, py_l1280, py_neg, py_add, py_sub, py_mul, py_stO]
          refine pr_needRegister rb (fun _ _ => ?_) (fun c => absurd hab.2 c)
          exact pr_placeOfReference h ra ri (fun _ _ _ a1 a2 => absurd ⟨a1, a2⟩ hi) (fun _ _ _ _ => hK) (fun _ _ c => absurd c (by omega)) (fun c => absurd hab.1 c)
        · have hj : jX5_set_51 K (py_o a) (py_o i) (py_o b) (py_O t) := hthr 3 (by omega) (by omega) K hK
          refine py_ile (fun _ => ?_) (fun c => absurd c (by omega))
          refine py_ilt (fun _ => hj) (fun _ => py_and (py_and ?_))
          rw [py_nat (by omega)]
          exact py_ilt (fun c => absurd ⟨by omega, c⟩ hi) (fun _ => hj)
    · have h43b : -1 ≤ t 43 a.toNat := by rcases q1 with e | ⟨e, _⟩ <;> omega
      refine ph_thr h (k := 1) (v := 2) (by omega) rfl (by decide) (fun K KX hK => ?_) (fun K hK => hM0 K ?_)
      · unfold eX4_set
        try simp only [py_O_ap, py_l0, py_l1, py_l2, py_l3, py_l4, py_l5, py_l6, py_l7, py_l8, py_l9, py_l12, py_l16, py_l32, py_l40, py_l100, py_l640, py_l1280, py_neg, py_add, py_sub, py_mul, py_stO]
        refine pr_needRegister rb (fun _ _ => ?_) (fun c => absurd hab.2 c)
        exact pr_placeOfReference h ra ri (fun _ _ c _ _ => absurd c h43) (fun _ _ c _ => absurd c h43) (fun _ _ _ => hK) (fun c => absurd hab.1 c)
      · exact py_ile (fun c => absurd c h43) (fun _ => hthr 2 (by omega) (by omega) K hK)
  · refine ph_thr h (k := 0) (v := 1) (by omega) rfl (by decide) (fun K KX hK => ?_) (fun K hK => ?_)
    · unfold eX4_set
      try simp only [py_O_ap, py_l0, py_l1, py_l2, py_l3, py_l4, py_l5, py_l6, py_l7, py_l8, py_l9, py_l12, py_l16, py_l32, py_l40, py_l100, py_l640, py_l1280, py_neg, py_add, py_sub, py_mul, py_stO]
      refine pr_needRegister rb (fun b1 b2 => ?_) (fun _ => hK)
      exact pr_placeOfReference h ra ri (fun a1 a2 _ _ _ => absurd ⟨⟨a1, a2⟩, b1, b2⟩ hab) (fun a1 a2 _ _ => absurd ⟨⟨a1, a2⟩, b1, b2⟩ hab) (fun a1 a2 _ => absurd ⟨⟨a1, a2⟩, b1, b2⟩ hab) (fun _ => hK)
    · have hj : jX5_set_15 K (py_o a) (py_o i) (py_o b) (py_O t) := hthr 1 (by omega) (by omega) K hK
      unfold eX5_set
      try simp only [py_O_ap, py_l0, py_l1, py_l2, py_l3, py_l4, py_l5, py_l6, py_l7, py_l8, py_l9, py_l12, py_l16, py_l32, py_l40, py_l100, py_l640, py_l1280, py_neg, py_add, py_sub, py_mul, py_stO]
      refine pm_noRegister ra (fun a1 a2 => ?_) (fun _ => py_ieq (fun c => absurd c (by omega)) (fun _ => hj))
      refine py_ieq (fun _ => ?_) (fun c => absurd rfl c)
      exact pm_noRegister rb (fun b1 b2 => absurd ⟨⟨a1, a2⟩, b1, b2⟩ hab) (fun _ => py_ieq (fun c => absurd c (by omega)) (fun _ => hj))
theorem ph_callGet (h : ph_R s t n m) {b a i : Int} (rb : -2147483648 ≤ b ∧ b < 2147483648) (ra : -2147483648 ≤ a ∧ a < 2147483648) (ri : -2147483648 ≤ i ∧ i < 2147483648) : ph_Out (fun K KX => eX4_get (py_O s) (py_o b) (py_o a) (py_o i) K KX) (fun K => eX5_get (py_O t) (py_o b) (py_o a) (py_o i) K) py_code3 (n + 1) (m + 101) := by
  have hthr : ∀ (v : Int), 0 < v → v < 10 → ∀ K : ty_S → Int32 → Prop, K (py_O (py_st t 60 0 v)) (py_o 0) → jX5_get_56 K (py_o b) (py_o a) (py_o i) (py_o v) (py_O t) := fun v h1 h2 K hK => by
    unfold jX5_get_56
    try simp only [py_O_ap, py_l0, py_l1, py_l2, py_l3, py_l4, py_l5, py_l6, py_l7, py_l8, py_l9, py_l12, py_l16, py_l32, py_l40, py_l100, py_l640, py_l1280, py_neg, py_add, py_sub, py_mul, py_stO]
    exact py_ile (fun c => absurd c (by omega)) (fun _ => hK)
  by_cases hab : (0 ≤ a ∧ a < 16) ∧ 0 ≤ b ∧ b < 16
  · obtain ⟨q1, q2⟩ := h.pv (r := a.toNat) (by omega)
    have hM0 : ∀ K : ty_S → Int32 → Prop, (if py_o 0 ≤ py_o (t 43 a.toNat) then (if py_o i < py_o 0 then jX5_get_51 K (py_o b) (py_o a) (py_o i) (py_O t) else (vp_in (py_o a) 16 ∧ (vp_in (py_o (t 43 a.toNat)) 640 ∧ (if py_o i < py_o (t 33 (py_o (t 43 a.toNat)).toNatClampNeg) then jX5_get_56 K (py_o b) (py_o a) (py_o i) (py_o 0) (py_O t) else jX5_get_51 K (py_o b) (py_o a) (py_o i) (py_O t))))) else jX5_get_56 K (py_o b) (py_o a) (py_o i) (py_o 2) (py_O t)) → eX5_get (py_O t) (py_o b) (py_o a) (py_o i) K := fun K hK => by
      unfold eX5_get
      try simp only [py_O_ap, py_l0, py_l1, py_l2, py_l3, py_l4, py_l5, py_l6, py_l7, py_l8, py_l9, py_l12, py_l16, py_l32, py_l40, py_l100, py_l640, py_l1280, py_neg, py_add, py_sub, py_mul, py_stO]
      refine pm_noRegister rb (fun _ _ => ?_) (fun c => absurd hab.2 c)
      refine py_ieq (fun _ => ?_) (fun c => absurd rfl c)
      refine pm_noRegister ra (fun _ _ => ?_) (fun c => absurd hab.1 c)
      refine py_ieq (fun _ => py_and ?_) (fun c => absurd rfl c)
      rw [py_nat (by omega)]
      exact hK
    by_cases h43 : 0 ≤ t 43 a.toNat
    · obtain ⟨c0, k0, hc0, hk0, g1, g2, g3, g4, g5, g6, g7, g8, g9⟩ := h.thing q1 h43
      by_cases hi : 0 ≤ i ∧ i < t 33 (t 43 a.toNat).toNat
      · obtain ⟨r1, r2, r3, r4, r5, r6, c, k, hc, hk, r7, r8⟩ := h.refAt hab.1 h43 hi
        have hR := (h.setReg (r := b.toNat) (by omega) r4).t60 0
        refine ⟨_, _, if t 35 (12 * (t 43 a.toNat).toNat + i.toNat) < 0 then 0 else t 30 (t 35 (12 * (t 43 a.toNat).toNat + i.toNat)).toNat, hR.mono (by omega) (by omega), fun K hK => hM0 K ?_, Or.inl ⟨py_se, fun K KX hK => ?_⟩⟩
        · refine py_ile (fun _ => ?_) (fun c => absurd c (by omega))
          refine py_ilt (fun c => absurd c (by omega)) (fun _ => py_and (py_and ?_))
          rw [py_nat (by omega)]
          refine py_ilt (fun _ => ?_) (fun c => absurd c (by omega))
          unfold jX5_get_56
          try simp only [py_O_ap, py_l0, py_l1, py_l2, py_l3, py_l4, py_l5, py_l6, py_l7, py_l8, py_l9, py_l12, py_l16, py_l32, py_l40, py_l100, py_l640, py_l1280, py_neg, py_add, py_sub, py_mul, py_stO]
          rw [if_pos (Int32.le_refl _)]
          refine py_and ?_
          rw [py_nat (by omega), py_nat (by omega)]
          try simp only [py_O_ap, py_l0, py_l1, py_l2, py_l3, py_l4, py_l5, py_l6, py_l7, py_l8, py_l9, py_l12, py_l16, py_l32, py_l40, py_l100, py_l640, py_l1280, py_neg, py_add, py_sub, py_mul, py_stO]
          refine py_and (py_and (py_and ?_))
          rw [py_nat (by omega), r3]
          try simp only [py_O_ap, py_l0, py_l1, py_l2, py_l3, py_l4, py_l5, py_l6, py_l7, py_l8, py_l9, py_l12, py_l16, py_l32, py_l40, py_l100, py_l640, py_l1280, py_neg, py_add, py_sub, py_mul, py_stO]
          rw [py_se]
          refine pm_labelOf h r4 (fun i => by rw [py_sn (by decide), py_sn (by decide)]) ?_
          rw [py_stc (by decide)]
          exact hK
        · unfold eX4_get
          try simp only [py_O_ap, py_l0, py_l1, py_l2, py_l3, py_l4, py_l5, py_l6, py_l7, py_l8, py_l9, py_l12, py_l16, py_l32, py_l40, py_l100, py_l640, py_l1280, py_neg, py_add, py_sub, py_mul, py_stO]
          refine pr_needRegister rb (fun _ _ => ?_) (fun c => absurd hab.2 c)
          refine pr_placeOfReference h ra ri (fun _ _ _ _ _ => ?_) (fun _ _ _ c => absurd hi c) (fun _ _ c => absurd c (by omega)) (fun c => absurd hab.1 c)
          refine pr_at (fun _ _ => py_and (py_and ?_)) (fun c => absurd c (by omega))
          rw [py_nat (by omega), r6]
          try simp only [py_O_ap, py_l0, py_l1, py_l2, py_l3, py_l4, py_l5, py_l6, py_l7, py_l8, py_l9, py_l12, py_l16, py_l32, py_l40, py_l100, py_l640, py_l1280, py_neg, py_add, py_sub, py_mul, py_stO]
          rw [py_se]
          exact pr_labelE h r4 (fun i => py_sn (by decide)) hK
      · refine ph_thr h (k := 2) (v := 3) (by omega) rfl (by decide) (fun K KX hK => ?_) (fun K hK => hM0 K ?_)
        · unfold eX4_get
          try simp only [py_O_ap, py_l0, py_l1, py_l2, py_l3, py_l4, py_l5, py_l6, py_l7, py_l8, py_l9, py_l12, py_l16, py_l32, py_l40, py_l100, py_l640, py_l1280, py_neg, py_add, py_sub, py_mul, py_stO]
          refine pr_needRegister rb (fun _ _ => ?_) (fun c => absurd hab.2 c)
          exact pr_placeOfReference h ra ri (fun _ _ _ a1 a2 => absurd ⟨a1, a2⟩ hi) (fun _ _ _ _ => hK) (fun _ _ c => absurd c (by omega)) (fun c => absurd hab.1 c)
        · have hj : jX5_get_51 K (py_o b) (py_o a) (py_o i) (py_O t) := hthr 3 (by omega) (by omega) K hK
          refine py_ile (fun _ => ?_) (fun c => absurd c (by omega))
          refine py_ilt (fun _ => hj) (fun _ => py_and (py_and ?_))
          rw [py_nat (by omega)]
          exact py_ilt (fun c => absurd ⟨by omega, c⟩ hi) (fun _ => hj)
    · have h43b : -1 ≤ t 43 a.toNat := by rcases q1 with e | ⟨e, _⟩ <;> omega
      refine ph_thr h (k := 1) (v := 2) (by omega) rfl (by decide) (fun K KX hK => ?_) (fun K hK => hM0 K ?_)
      · unfold eX4_get
        try simp only [py_O_ap, py_l0, py_l1, py_l2, py_l3, py_l4, py_l5, py_l6, py_l7, py_l8, py_l9, py_l12, py_l16, py_l32, py_l40, py_l100, py_l640, py_l1280, py_neg, py_add, py_sub, py_mul, py_stO]
        refine pr_needRegister rb (fun _ _ => ?_) (fun c => absurd hab.2 c)
        exact pr_placeOfReference h ra ri (fun _ _ c _ _ => absurd c h43) (fun _ _ c _ => absurd c h43) (fun _ _ _ => hK) (fun c => absurd hab.1 c)
      · exact py_ile (fun c => absurd c h43) (fun _ => hthr 2 (by omega) (by omega) K hK)
  · refine ph_thr h (k := 0) (v := 1) (by omega) rfl (by decide) (fun K KX hK => ?_) (fun K hK => ?_)
    · unfold eX4_get
      try simp only [py_O_ap, py_l0, py_l1, py_l2, py_l3, py_l4, py_l5, py_l6, py_l7, py_l8, py_l9, py_l12, py_l16, py_l32, py_l40, py_l100, py_l640, py_l1280, py_neg, py_add, py_sub, py_mul, py_stO]
      refine pr_needRegister rb (fun b1 b2 => ?_) (fun _ => hK)
      exact pr_placeOfReference h ra ri (fun a1 a2 _ _ _ => absurd ⟨⟨a1, a2⟩, b1, b2⟩ hab) (fun a1 a2 _ _ => absurd ⟨⟨a1, a2⟩, b1, b2⟩ hab) (fun a1 a2 _ => absurd ⟨⟨a1, a2⟩, b1, b2⟩ hab) (fun _ => hK)
    · have hj : jX5_get_15 K (py_o b) (py_o a) (py_o i) (py_O t) := hthr 1 (by omega) (by omega) K hK
      unfold eX5_get
      try simp only [py_O_ap, py_l0, py_l1, py_l2, py_l3, py_l4, py_l5, py_l6, py_l7, py_l8, py_l9, py_l12, py_l16, py_l32, py_l40, py_l100, py_l640, py_l1280, py_neg, py_add, py_sub, py_mul, py_stO]
      refine pm_noRegister rb (fun b1 b2 => ?_) (fun _ => py_ieq (fun c => absurd c (by omega)) (fun _ => hj))
      refine py_ieq (fun _ => ?_) (fun c => absurd rfl c)
      exact pm_noRegister ra (fun a1 a2 => absurd ⟨⟨a1, a2⟩, b1, b2⟩ hab) (fun _ => py_ieq (fun c => absurd c (by omega)) (fun _ => hj))
theorem ph_callLabel (h : ph_R s t n m) {a i : Int} (ra : -2147483648 ≤ a ∧ a < 2147483648) (ri : -2147483648 ≤ i ∧ i < 2147483648) : ph_Out (fun K KX => eX4_label (py_O s) (py_o a) (py_o i) K KX) (fun K => eX5_label (py_O t) (py_o a) (py_o i) K) py_code3 (n + 1) (m + 101) := by
  have hthr : ∀ (v : Int), 0 < v → v < 10 → ∀ K : ty_S → Int32 → Prop, K (py_O (py_st t 60 0 v)) (py_o 0) → jX5_label_49 K (py_o a) (py_o i) (py_o v) (py_O t) := fun v h1 h2 K hK => by
    unfold jX5_label_49
    try simp only [py_O_ap, py_l0, py_l1, py_l2, py_l3, py_l4, py_l5, py_l6, py_l7, py_l8, py_l9, py_l12, py_l16, py_l32, py_l40, py_l100, py_l640, py_l1280, py_neg, py_add, py_sub, py_mul, py_stO]
    exact py_ile (fun c => absurd c (by omega)) (fun _ => hK)
  by_cases ha : 0 ≤ a ∧ a < 16
  · obtain ⟨q1, q2⟩ := h.pv (r := a.toNat) (by omega)
    have hM0 : ∀ K : ty_S → Int32 → Prop, (if py_o 0 ≤ py_o (t 43 a.toNat) then (if py_o i < py_o 0 then jX5_label_44 K (py_o a) (py_o i) (py_O t) else (vp_in (py_o a) 16 ∧ (vp_in (py_o (t 43 a.toNat)) 640 ∧ (if py_o i < py_o (t 33 (py_o (t 43 a.toNat)).toNatClampNeg) then jX5_label_49 K (py_o a) (py_o i) (py_o 0) (py_O t) else jX5_label_44 K (py_o a) (py_o i) (py_O t))))) else jX5_label_49 K (py_o a) (py_o i) (py_o 2) (py_O t)) → eX5_label (py_O t) (py_o a) (py_o i) K := fun K hK => by
      unfold eX5_label
      try simp only [py_O_ap, py_l0, py_l1, py_l2, py_l3, py_l4, py_l5, py_l6, py_l7, py_l8, py_l9, py_l12, py_l16, py_l32, py_l40, py_l100, py_l640, py_l1280, py_neg, py_add, py_sub, py_mul, py_stO]
      refine pm_noRegister ra (fun _ _ => ?_) (fun c => absurd ha c)
      refine py_ieq (fun _ => py_and ?_) (fun c => absurd rfl c)
      rw [py_nat (by omega)]
      exact hK
    by_cases h43 : 0 ≤ t 43 a.toNat
    · obtain ⟨c0, k0, hc0, hk0, g1, g2, g3, g4, g5, g6, g7, g8, g9⟩ := h.thing q1 h43
      by_cases hi : 0 ≤ i ∧ i < t 33 (t 43 a.toNat).toNat
      · obtain ⟨r1, r2, r3, r4, r5, r6, c, k, hc, hk, r7, r8⟩ := h.refAt ha h43 hi
        refine ph_ret h (r := if t 35 (12 * (t 43 a.toNat).toNat + i.toNat) < 0 then 0 else t 30 (t 35 (12 * (t 43 a.toNat).toNat + i.toNat)).toNat) (fun K KX hK => ?_) (fun K hK => hM0 K ?_)
        · unfold eX4_label
          try simp only [py_O_ap, py_l0, py_l1, py_l2, py_l3, py_l4, py_l5, py_l6, py_l7, py_l8, py_l9, py_l12, py_l16, py_l32, py_l40, py_l100, py_l640, py_l1280, py_neg, py_add, py_sub, py_mul, py_stO]
          refine pr_placeOfReference h ra ri (fun _ _ _ _ _ => ?_) (fun _ _ _ c => absurd hi c) (fun _ _ c => absurd c (by omega)) (fun c => absurd ha c)
          refine pr_at (fun _ _ => ?_) (fun c => absurd c (by omega))
          rw [r6]
          exact pr_labelE h r4 (fun i => rfl) hK
        · refine py_ile (fun _ => ?_) (fun c => absurd c (by omega))
          refine py_ilt (fun c => absurd c (by omega)) (fun _ => py_and (py_and ?_))
          rw [py_nat (by omega)]
          refine py_ilt (fun _ => ?_) (fun c => absurd c (by omega))
          unfold jX5_label_49
          try simp only [py_O_ap, py_l0, py_l1, py_l2, py_l3, py_l4, py_l5, py_l6, py_l7, py_l8, py_l9, py_l12, py_l16, py_l32, py_l40, py_l100, py_l640, py_l1280, py_neg, py_add, py_sub, py_mul, py_stO]
          rw [if_pos (Int32.le_refl _)]
          refine py_and ?_
          rw [py_nat (by omega)]
          try simp only [py_O_ap, py_l0, py_l1, py_l2, py_l3, py_l4, py_l5, py_l6, py_l7, py_l8, py_l9, py_l12, py_l16, py_l32, py_l40, py_l100, py_l640, py_l1280, py_neg, py_add, py_sub, py_mul, py_stO]
          refine py_and ?_
          rw [py_nat (by omega), r3]
          exact pm_labelOf h r4 (fun i => py_sn (by decide)) hK
      · refine ph_thr h (k := 2) (v := 3) (by omega) rfl (by decide) (fun K KX hK => ?_) (fun K hK => hM0 K ?_)
        · unfold eX4_label
          try simp only [py_O_ap, py_l0, py_l1, py_l2, py_l3, py_l4, py_l5, py_l6, py_l7, py_l8, py_l9, py_l12, py_l16, py_l32, py_l40, py_l100, py_l640, py_l1280, py_neg, py_add, py_sub, py_mul, py_stO]
          exact pr_placeOfReference h ra ri (fun _ _ _ a1 a2 => absurd ⟨a1, a2⟩ hi) (fun _ _ _ _ => hK) (fun _ _ c => absurd c (by omega)) (fun c => absurd ha c)
        · have hj : jX5_label_44 K (py_o a) (py_o i) (py_O t) := hthr 3 (by omega) (by omega) K hK
          refine py_ile (fun _ => ?_) (fun c => absurd c (by omega))
          refine py_ilt (fun _ => hj) (fun _ => py_and (py_and ?_))
          rw [py_nat (by omega)]
          exact py_ilt (fun c => absurd ⟨by omega, c⟩ hi) (fun _ => hj)
    · have h43b : -1 ≤ t 43 a.toNat := by rcases q1 with e | ⟨e, _⟩ <;> omega
      refine ph_thr h (k := 1) (v := 2) (by omega) rfl (by decide) (fun K KX hK => ?_) (fun K hK => hM0 K ?_)
      · unfold eX4_label
        try simp only [py_O_ap, py_l0, py_l1, py_l2, py_l3, py_l4, py_l5, py_l6, py_l7, py_l8, py_l9, py_l12, py_l16, py_l32, py_l40, py_l100, py_l640, py_l1280, py_neg, py_add, py_sub, py_mul, py_stO]
        exact pr_placeOfReference h ra ri (fun _ _ c _ _ => absurd c h43) (fun _ _ c _ => absurd c h43) (fun _ _ _ => hK) (fun c => absurd ha c)
      · exact py_ile (fun c => absurd c h43) (fun _ => hthr 2 (by omega) (by omega) K hK)
  · refine ph_thr h (k := 0) (v := 1) (by omega) rfl (by decide) (fun K KX hK => ?_) (fun K hK => ?_)
    · unfold eX4_label
      try simp only [py_O_ap, py_l0, py_l1, py_l2, py_l3, py_l4, py_l5, py_l6, py_l7, py_l8, py_l9, py_l12, py_l16, py_l32, py_l40, py_l100, py_l640, py_l1280, py_neg, py_add, py_sub, py_mul, py_stO]
      exact pr_placeOfReference h ra ri (fun a1 a2 _ _ _ => absurd ⟨a1, a2⟩ ha) (fun a1 a2 _ _ => absurd ⟨a1, a2⟩ ha) (fun a1 a2 _ => absurd ⟨a1, a2⟩ ha) (fun _ => hK)
    · unfold eX5_label
      try simp only [py_O_ap, py_l0, py_l1, py_l2, py_l3, py_l4, py_l5, py_l6, py_l7, py_l8, py_l9, py_l12, py_l16, py_l32, py_l40, py_l100, py_l640, py_l1280, py_neg, py_add, py_sub, py_mul, py_stO]
      exact pm_noRegister ra (fun a1 a2 => absurd ⟨a1, a2⟩ ha) (fun _ => py_ieq (fun c => absurd c (by omega)) (fun _ => hthr 1 (by omega) (by omega) K hK))
/-- the check of a number -/
theorem pm_noNumber (h : ph_R s t n m) {a i : Int} {K : ty_S → Int32 → Prop} (ra : -2147483648 ≤ a ∧ a < 2147483648) (ri : -2147483648 ≤ i ∧ i < 2147483648) (h1 : (0 ≤ a ∧ a < 16) → 0 ≤ t 43 a.toNat → (0 ≤ i ∧ i < t 34 (t 43 a.toNat).toNat) → K (py_O (py_st t 60 0 0)) (py_o 0)) (h3 : (0 ≤ a ∧ a < 16) → 0 ≤ t 43 a.toNat → ¬ (0 ≤ i ∧ i < t 34 (t 43 a.toNat).toNat) → K (py_O (py_st t 60 0 3)) (py_o 1)) (h2 : (0 ≤ a ∧ a < 16) → t 43 a.toNat < 0 → K (py_O (py_st t 60 0 2)) (py_o 1)) (h0 : ¬ (0 ≤ a ∧ a < 16) → K (py_O (py_st t 60 0 1)) (py_o 1)) : eX5_noNumber (py_O t) (py_o a) (py_o i) K := by
  have hthr : ∀ (v : Int), 0 < v → v < 10 → K (py_O (py_st t 60 0 v)) (py_o 1) → jX5_noNumber_49 K (py_o v) (py_O t) := fun v h1 h2 hK => by
    unfold jX5_noNumber_49
    try simp only [py_O_ap, py_l0, py_l1, py_l2, py_l3, py_l4, py_l5, py_l6, py_l7, py_l8, py_l9, py_l12, py_l16, py_l32, py_l40, py_l100, py_l640, py_l1280, py_neg, py_add, py_sub, py_mul, py_stO]
    exact py_ile (fun c => absurd c (by omega)) (fun _ => hK)
  unfold eX5_noNumber
  try simp only [py_O_ap, py_l0, py_l1, py_l2, py_l3, py_l4, py_l5, py_l6, py_l7, py_l8, py_l9, py_l12, py_l16, py_l32, py_l40, py_l100, py_l640, py_l1280, py_neg, py_add, py_sub, py_mul, py_stO]
  refine pm_noRegister ra (fun a1 a2 => ?_) (fun c => py_ieq (fun c => absurd c (by omega)) (fun _ => hthr 1 (by omega) (by omega) (h0 c)))
  refine py_ieq (fun _ => py_and ?_) (fun c => absurd rfl c)
  rw [py_nat (by omega)]
  obtain ⟨q1, q2⟩ := h.pv (r := a.toNat) (by omega)
  try simp only [py_O_ap, py_l0, py_l1, py_l2, py_l3, py_l4, py_l5, py_l6, py_l7, py_l8, py_l9, py_l12, py_l16, py_l32, py_l40, py_l100, py_l640, py_l1280, py_neg, py_add, py_sub, py_mul, py_stO]
  by_cases h43 : 0 ≤ t 43 a.toNat
  · obtain ⟨c0, k0, hc0, hk0, g1, g2, g3, g4, g5, g6, g7, g8, g9⟩ := h.thing q1 h43
    refine py_ile (fun _ => ?_) (fun c => absurd c (by omega))
    refine py_ilt (fun c => ?_) (fun c => py_and (py_and ?_))
    · exact hthr 3 (by omega) (by omega) (h3 ⟨a1, a2⟩ h43 (by omega))
    · simp only [py_nat (show -2147483648 ≤ t 43 a.toNat ∧ t 43 a.toNat < 2147483648 by omega)]
      refine py_ilt (fun c2 => ?_) (fun c2 => hthr 3 (by omega) (by omega) (h3 ⟨a1, a2⟩ h43 (by omega)))
      unfold jX5_noNumber_49
      try simp only [py_O_ap, py_l0, py_l1, py_l2, py_l3, py_l4, py_l5, py_l6, py_l7, py_l8, py_l9, py_l12, py_l16, py_l32, py_l40, py_l100, py_l640, py_l1280, py_neg, py_add, py_sub, py_mul, py_stO]
      rw [if_pos (Int32.le_refl _)]
      exact h1 ⟨a1, a2⟩ h43 ⟨c, c2⟩
  · have h43b : -1 ≤ t 43 a.toNat := by rcases q1 with e | ⟨e, _⟩ <;> omega
    exact py_ile (fun c => absurd c h43) (fun _ => hthr 2 (by omega) (by omega) (h2 ⟨a1, a2⟩ (by omega)))
theorem ph_R.numAt (h : ph_R s t n m) {a i : Int} (ha : 0 ≤ a ∧ a < 16) (h43 : 0 ≤ t 43 a.toNat) (hi : 0 ≤ i ∧ i < t 34 (t 43 a.toNat).toNat) : t 43 a.toNat < 640 ∧ t 34 (t 43 a.toNat).toNat ≤ 12 ∧ (12 * t 43 a.toNat + i).toNat = 12 * (t 43 a.toNat).toNat + i.toNat ∧
    (0 ≤ ph_E t (t 43 a.toNat) + 2 + t 33 (t 43 a.toNat).toNat + i ∧ ph_E t (t 43 a.toNat) + 2 + t 33 (t 43 a.toNat).toNat + i < 1280) ∧ s 0 (ph_E t (t 43 a.toNat) + 2 + t 33 (t 43 a.toNat).toNat + i).toNat = t 36 (12 * (t 43 a.toNat).toNat + i.toNat) ∧ ∃ c k : Nat, c < 40 ∧ (k : Int) < t 38 c ∧ ph_x t c k = (t 43 a.toNat).toNat ∧ (ph_E t (t 43 a.toNat) + 2 + t 33 (t 43 a.toNat).toNat + i).toNat = 32 * c + ph_pos t c k + 2 + (t 33 (ph_x t c k)).toNat + i.toNat := by
  obtain ⟨q1, q2⟩ := h.pv (r := a.toNat) (by omega)
  obtain ⟨c, k, hc, hk, g1, g2, g3, g4, g5, g6, g7, g8, g9, g10, g11, g12, g13⟩ := h.thing q1 h43
  have e1 : (ph_E t (t 43 a.toNat) + 2 + t 33 (t 43 a.toNat).toNat + i).toNat = 32 * c + ph_pos t c k + 2 + (t 33 (t 43 a.toNat).toNat).toNat + i.toNat := by omega
  refine ⟨by omega, g8.2, by omega, by omega, ?_, c, k, hc, hk, g1, by rw [g1]; exact e1⟩
  rw [e1, g12 i.toNat (by omega)]
theorem ph_callPut (h : ph_R s t n m) {a i v : Int} (ra : -2147483648 ≤ a ∧ a < 2147483648) (ri : -2147483648 ≤ i ∧ i < 2147483648) : ph_Out (fun K KX => eX4_put (py_O s) (py_o a) (py_o i) (py_o v) K KX) (fun K => eX5_put (py_O t) (py_o a) (py_o i) (py_o v) K) py_code3 (n + 1) (m + 101) := by
  have hx : ∀ w : Int, ∀ K : ty_S → Int32 → Prop, K (py_O (py_st t 60 0 w)) (py_o 0) → (if py_o 1 = py_o 0 then (vp_in (py_o a) 16 ∧ (vp_in ((py_o 12 * (py_O (py_st t 60 0 w) 43 (py_o a).toNatClampNeg)) + py_o i) 7680 ∧ (vp_in ((py_o 12 * (py_O (py_st t 60 0 w) 43 (py_o a).toNatClampNeg)) + py_o i) 7680 ∧ K (ty_st (py_O (py_st t 60 0 w)) 36 ((py_o 12 * (py_O (py_st t 60 0 w) 43 (py_o a).toNatClampNeg)) + py_o i).toNatClampNeg (py_o v)) (py_O (py_st t 60 0 w) 36 ((py_o 12 * (py_O (py_st t 60 0 w) 43 (py_o a).toNatClampNeg)) + py_o i).toNatClampNeg)))) else K (py_O (py_st t 60 0 w)) (py_o 0)) := fun w K hK => py_ieq (fun c => absurd c (by omega)) (fun _ => hK)
  by_cases ha : 0 ≤ a ∧ a < 16
  · by_cases h43 : 0 ≤ t 43 a.toNat
    · by_cases hi : 0 ≤ i ∧ i < t 34 (t 43 a.toNat).toNat
      · obtain ⟨r1, r2, r3, r5, r6, c, k, hc, hk, r7, r8⟩ := h.numAt ha h43 hi
        have hR := (h.setWord (g := 36) (i := i.toNat) (y := v) (v := v) hc hk (Or.inr ⟨rfl, by rw [r7]; omega, rfl⟩)).t60 0
        rw [if_neg (by decide), ← r8, r7] at hR
        refine ⟨_, _, t 36 (12 * (t 43 a.toNat).toNat + i.toNat), hR.mono (by omega) (by omega), fun K hK => ?_, Or.inl ⟨py_se, fun K KX hK => ?_⟩⟩
        · unfold eX5_put
          try simp only [py_O_ap, py_l0, py_l1, py_l2, py_l3, py_l4, py_l5, py_l6, py_l7, py_l8, py_l9, py_l12, py_l16, py_l32, py_l40, py_l100, py_l640, py_l1280, py_neg, py_add, py_sub, py_mul, py_stO]
          refine pm_noNumber h ra ri (fun _ _ _ => ?_) (fun _ _ c => absurd hi c) (fun _ c => absurd c (by omega)) (fun c => absurd ha c)
          refine py_ieq (fun _ => py_and ?_) (fun c => absurd rfl c)
          rw [py_nat (by omega)]
          try simp only [py_O_ap, py_l0, py_l1, py_l2, py_l3, py_l4, py_l5, py_l6, py_l7, py_l8, py_l9, py_l12, py_l16, py_l32, py_l40, py_l100, py_l640, py_l1280, py_neg, py_add, py_sub, py_mul, py_stO]
          rw [py_sn (by decide)]
          refine py_and (py_and ?_)
          rw [py_nat (by omega), r3, py_sn (by decide), py_stc (by decide)]
          exact hK
        · unfold eX4_put
          try simp only [py_O_ap, py_l0, py_l1, py_l2, py_l3, py_l4, py_l5, py_l6, py_l7, py_l8, py_l9, py_l12, py_l16, py_l32, py_l40, py_l100, py_l640, py_l1280, py_neg, py_add, py_sub, py_mul, py_stO]
          refine pr_placeOfNumber h ra ri (fun _ _ _ _ _ => ?_) (fun _ _ _ c => absurd hi c) (fun _ _ c => absurd c (by omega)) (fun c => absurd ha c)
          refine pr_at (fun _ _ => ?_) (fun c => absurd c (by omega))
          rw [r6]
          exact pr_write (fun _ _ => hK) (fun c => absurd c (by omega))
      · refine ph_thr h (k := 2) (v := 3) (by omega) rfl (by decide) (fun K KX hK => ?_) (fun K hK => ?_)
        · unfold eX4_put
          try simp only [py_O_ap, py_l0, py_l1, py_l2, py_l3, py_l4, py_l5, py_l6, py_l7, py_l8, py_l9, py_l12, py_l16, py_l32, py_l40, py_l100, py_l640, py_l1280, py_neg, py_add, py_sub, py_mul, py_stO]
          exact pr_placeOfNumber h ra ri (fun _ _ _ a1 a2 => absurd ⟨a1, a2⟩ hi) (fun _ _ _ _ => hK) (fun _ _ c => absurd c (by omega)) (fun c => absurd ha c)
        · unfold eX5_put
          rw [py_l12, py_l0]
          exact pm_noNumber h ra ri (fun _ _ c => absurd c hi) (fun _ _ _ => hx 3 K hK) (fun _ c => absurd c (by omega)) (fun c => absurd ha c)
    · refine ph_thr h (k := 1) (v := 2) (by omega) rfl (by decide) (fun K KX hK => ?_) (fun K hK => ?_)
      · unfold eX4_put
        try simp only [py_O_ap, py_l0, py_l1, py_l2, py_l3, py_l4, py_l5, py_l6, py_l7, py_l8, py_l9, py_l12, py_l16, py_l32, py_l40, py_l100, py_l640, py_l1280, py_neg, py_add, py_sub, py_mul, py_stO]
        exact pr_placeOfNumber h ra ri (fun _ _ c _ _ => absurd c h43) (fun _ _ c _ => absurd c h43) (fun _ _ _ => hK) (fun c => absurd ha c)
      · unfold eX5_put
        rw [py_l12, py_l0]
        exact pm_noNumber h ra ri (fun _ c _ => absurd c h43) (fun _ c _ => absurd c h43) (fun _ _ => hx 2 K hK) (fun c => absurd ha c)
  · refine ph_thr h (k := 0) (v := 1) (by omega) rfl (by decide) (fun K KX hK => ?_) (fun K hK => ?_)
    · unfold eX4_put
      try simp only [py_O_ap, py_l0, py_l1, py_l2, py_l3, py_l4, py_l5, py_l6, py_l7, py_l8, py_l9, py_l12, py_l16, py_l32, py_l40, py_l100, py_l640, py_l1280, py_neg, py_add, py_sub, py_mul, py_stO]
      exact pr_placeOfNumber h ra ri (fun a1 a2 _ _ _ => absurd ⟨a1, a2⟩ ha) (fun a1 a2 _ _ => absurd ⟨a1, a2⟩ ha) (fun a1 a2 _ => absurd ⟨a1, a2⟩ ha) (fun _ => hK)
    · unfold eX5_put
      rw [py_l12, py_l0]
      exact pm_noNumber h ra ri (fun c _ _ => absurd c ha) (fun c _ _ => absurd c ha) (fun c _ => absurd c ha) (fun _ => hx 1 K hK)
theorem ph_callNumber (h : ph_R s t n m) {a i : Int} (ra : -2147483648 ≤ a ∧ a < 2147483648) (ri : -2147483648 ≤ i ∧ i < 2147483648) : ph_Out (fun K KX => eX4_number (py_O s) (py_o a) (py_o i) K KX) (fun K => eX5_number (py_O t) (py_o a) (py_o i) K) py_code3 (n + 1) (m + 101) := by
  by_cases ha : 0 ≤ a ∧ a < 16
  · by_cases h43 : 0 ≤ t 43 a.toNat
    · by_cases hi : 0 ≤ i ∧ i < t 34 (t 43 a.toNat).toNat
      · obtain ⟨r1, r2, r3, r5, r6, c, k, hc, hk, r7, r8⟩ := h.numAt ha h43 hi
        refine ph_ret h (r := t 36 (12 * (t 43 a.toNat).toNat + i.toNat)) (fun K KX hK => ?_) (fun K hK => ?_)
        · unfold eX4_number
          try simp only [py_O_ap, py_l0, py_l1, py_l2, py_l3, py_l4, py_l5, py_l6, py_l7, py_l8, py_l9, py_l12, py_l16, py_l32, py_l40, py_l100, py_l640, py_l1280, py_neg, py_add, py_sub, py_mul, py_stO]
          refine pr_placeOfNumber h ra ri (fun _ _ _ _ _ => ?_) (fun _ _ _ c => absurd hi c) (fun _ _ c => absurd c (by omega)) (fun c => absurd ha c)
          refine pr_at (fun _ _ => ?_) (fun c => absurd c (by omega))
          rw [r6]; exact hK
        · unfold eX5_number
          try simp only [py_O_ap, py_l0, py_l1, py_l2, py_l3, py_l4, py_l5, py_l6, py_l7, py_l8, py_l9, py_l12, py_l16, py_l32, py_l40, py_l100, py_l640, py_l1280, py_neg, py_add, py_sub, py_mul, py_stO]
          refine pm_noNumber h ra ri (fun _ _ _ => ?_) (fun _ _ c => absurd hi c) (fun _ c => absurd c (by omega)) (fun c => absurd ha c)
          refine py_ieq (fun _ => py_and ?_) (fun c => absurd rfl c)
          rw [py_nat (by omega)]
          try simp only [py_O_ap, py_l0, py_l1, py_l2, py_l3, py_l4, py_l5, py_l6, py_l7, py_l8, py_l9, py_l12, py_l16, py_l32, py_l40, py_l100, py_l640, py_l1280, py_neg, py_add, py_sub, py_mul, py_stO]
          rw [py_sn (by decide)]
          refine py_and ?_
          rw [py_nat (by omega), r3, py_sn (by decide)]
          exact hK
      · refine ph_thr h (k := 2) (v := 3) (by omega) rfl (by decide) (fun K KX hK => ?_) (fun K hK => ?_)
        · unfold eX4_number
          try simp only [py_O_ap, py_l0, py_l1, py_l2, py_l3, py_l4, py_l5, py_l6, py_l7, py_l8, py_l9, py_l12, py_l16, py_l32, py_l40, py_l100, py_l640, py_l1280, py_neg, py_add, py_sub, py_mul, py_stO]
          exact pr_placeOfNumber h ra ri (fun _ _ _ a1 a2 => absurd ⟨a1, a2⟩ hi) (fun _ _ _ _ => hK) (fun _ _ c => absurd c (by omega)) (fun c => absurd ha c)
        · unfold eX5_number
          try simp only [py_O_ap, py_l0, py_l1, py_l2, py_l3, py_l4, py_l5, py_l6, py_l7, py_l8, py_l9, py_l12, py_l16, py_l32, py_l40, py_l100, py_l640, py_l1280, py_neg, py_add, py_sub, py_mul, py_stO]
          exact pm_noNumber h ra ri (fun _ _ c => absurd c hi) (fun _ _ _ => py_ieq (fun c => absurd c (by omega)) (fun _ => hK)) (fun _ c => absurd c (by omega)) (fun c => absurd ha c)
    · refine ph_thr h (k := 1) (v := 2) (by omega) rfl (by decide) (fun K KX hK => ?_) (fun K hK => ?_)
      · unfold eX4_number
        try simp only [py_O_ap, py_l0, py_l1, py_l2, py_l3, py_l4, py_l5, py_l6, py_l7, py_l8, py_l9, py_l12, py_l16, py_l32, py_l40, py_l100, py_l640, py_l1280, py_neg, py_add, py_sub, py_mul, py_stO]
        exact pr_placeOfNumber h ra ri (fun _ _ c _ _ => absurd c h43) (fun _ _ c _ => absurd c h43) (fun _ _ _ => hK) (fun c => absurd ha c)
      · unfold eX5_number
        try simp only [py_O_ap, py_l0, py_l1, py_l2, py_l3, py_l4, py_l5, py_l6, py_l7, py_l8, py_l9, py_l12, py_l16, py_l32, py_l40, py_l100, py_l640, py_l1280, py_neg, py_add, py_sub, py_mul, py_stO]
        exact pm_noNumber h ra ri (fun _ c _ => absurd c h43) (fun _ c _ => absurd c h43) (fun _ _ => py_ieq (fun c => absurd c (by omega)) (fun _ => hK)) (fun c => absurd ha c)
  · refine ph_thr h (k := 0) (v := 1) (by omega) rfl (by decide) (fun K KX hK => ?_) (fun K hK => ?_)
    · unfold eX4_number
      try simp only [py_O_ap, py_l0, py_l1, py_l2, py_l3, py_l4, py_l5, py_l6, py_l7, py_l8, py_l9, py_l12, py_l16, py_l32, py_l40, py_l100, py_l640, py_l1280, py_neg, py_add, py_sub, py_mul, py_stO]
      exact pr_placeOfNumber h ra ri (fun a1 a2 _ _ _ => absurd ⟨a1, a2⟩ ha) (fun a1 a2 _ _ => absurd ⟨a1, a2⟩ ha) (fun a1 a2 _ => absurd ⟨a1, a2⟩ ha) (fun _ => hK)
    · unfold eX5_number
      try simp only [py_O_ap, py_l0, py_l1, py_l2, py_l3, py_l4, py_l5, py_l6, py_l7, py_l8, py_l9, py_l12, py_l16, py_l32, py_l40, py_l100, py_l640, py_l1280, py_neg, py_add, py_sub, py_mul, py_stO]
      exact pm_noNumber h ra ri (fun c _ _ => absurd c ha) (fun c _ _ => absurd c ha) (fun c _ => absurd c ha) (fun _ => py_ieq (fun c => absurd c (by omega)) (fun _ => hK))
end PC4
